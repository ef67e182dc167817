section
-- ===== PART A: goes FIRST, ahead of the names: the tables' words, and 'selects' of the private methods out of them =====
/-- a private method of a class that the tables say can be made, by its rows of tables_1 -/
def lw_okq (q : MethodName × Nat) : Prop := (q.1.cls ≠ "java/lang/invoke/MethodHandle" ∧ q.1.cls ≠ "java/lang/invoke/VarHandle") ∧ Cond.instantiable q.1.cls q.2 ∈ tables_1 ∧ Cond.privateMethod q.1 ∈ tables_1 ∧ Cond.instanceMethod q.1 ∈ tables_1
theorem lw_p0 : lw_okq (⟨"PullSaw$Reader", "skipBlanks", "()V"⟩, 7) := ⟨⟨by decide +kernel, by decide +kernel⟩, List.mem_of_getElem? (i := 102) (by decide +kernel), List.mem_of_getElem? (i := 396) (by decide +kernel), List.mem_of_getElem? (i := 397) (by decide +kernel)⟩
theorem lw_p1 : lw_okq (⟨"PullSaw$Reader", "readClause", "()V"⟩, 7) := ⟨⟨by decide +kernel, by decide +kernel⟩, List.mem_of_getElem? (i := 102) (by decide +kernel), List.mem_of_getElem? (i := 404) (by decide +kernel), List.mem_of_getElem? (i := 405) (by decide +kernel)⟩
theorem lw_p2 : lw_okq (⟨"PullSaw$Reader", "faultOfWord", "(I)I"⟩, 7) := ⟨⟨by decide +kernel, by decide +kernel⟩, List.mem_of_getElem? (i := 102) (by decide +kernel), List.mem_of_getElem? (i := 408) (by decide +kernel), List.mem_of_getElem? (i := 409) (by decide +kernel)⟩
theorem lw_p3 : lw_okq (⟨"PullSaw$Reader", "markFault", "(II)V"⟩, 7) := ⟨⟨by decide +kernel, by decide +kernel⟩, List.mem_of_getElem? (i := 102) (by decide +kernel), List.mem_of_getElem? (i := 412) (by decide +kernel), List.mem_of_getElem? (i := 413) (by decide +kernel)⟩
theorem lw_p4 : lw_okq (⟨"PullSaw$Reader", "readLayers", "()V"⟩, 7) := ⟨⟨by decide +kernel, by decide +kernel⟩, List.mem_of_getElem? (i := 102) (by decide +kernel), List.mem_of_getElem? (i := 416) (by decide +kernel), List.mem_of_getElem? (i := 417) (by decide +kernel)⟩
theorem lw_p5 : lw_okq (⟨"PullSaw$Reader", "readNumber", "(II)I"⟩, 7) := ⟨⟨by decide +kernel, by decide +kernel⟩, List.mem_of_getElem? (i := 102) (by decide +kernel), List.mem_of_getElem? (i := 420) (by decide +kernel), List.mem_of_getElem? (i := 421) (by decide +kernel)⟩
theorem lw_p6 : lw_okq (⟨"PullSaw$Reader", "readEnd", "()V"⟩, 7) := ⟨⟨by decide +kernel, by decide +kernel⟩, List.mem_of_getElem? (i := 102) (by decide +kernel), List.mem_of_getElem? (i := 428) (by decide +kernel), List.mem_of_getElem? (i := 429) (by decide +kernel)⟩
theorem lw_p7 : lw_okq (⟨"PullSaw$Reader", "readPerson", "()V"⟩, 7) := ⟨⟨by decide +kernel, by decide +kernel⟩, List.mem_of_getElem? (i := 102) (by decide +kernel), List.mem_of_getElem? (i := 432) (by decide +kernel), List.mem_of_getElem? (i := 433) (by decide +kernel)⟩
theorem lw_p8 : lw_okq (⟨"PullSaw$Reader", "readSaw", "()V"⟩, 7) := ⟨⟨by decide +kernel, by decide +kernel⟩, List.mem_of_getElem? (i := 102) (by decide +kernel), List.mem_of_getElem? (i := 436) (by decide +kernel), List.mem_of_getElem? (i := 437) (by decide +kernel)⟩
theorem lw_p9 : lw_okq (⟨"PullSaw", "refusalOfTwo", "(II)I"⟩, 11) := ⟨⟨by decide +kernel, by decide +kernel⟩, List.mem_of_getElem? (i := 15) (by decide +kernel), List.mem_of_getElem? (i := 504) (by decide +kernel), List.mem_of_getElem? (i := 505) (by decide +kernel)⟩
theorem lw_p10 : lw_okq (⟨"PullSaw", "refusalOfSawing", "(I)I"⟩, 11) := ⟨⟨by decide +kernel, by decide +kernel⟩, List.mem_of_getElem? (i := 15) (by decide +kernel), List.mem_of_getElem? (i := 519) (by decide +kernel), List.mem_of_getElem? (i := 520) (by decide +kernel)⟩
theorem lw_p11 : lw_okq (⟨"PullSaw$Past", "placeAt", "(I)LPullSaw$Work;"⟩, 3) := ⟨⟨by decide +kernel, by decide +kernel⟩, List.mem_of_getElem? (i := 223) (by decide +kernel), List.mem_of_getElem? (i := 534) (by decide +kernel), List.mem_of_getElem? (i := 535) (by decide +kernel)⟩
theorem lw_p12 : lw_okq (⟨"PullSaw$Work", "pullOf", "(LPullSaw$Yard;II)I"⟩, 13) := ⟨⟨by decide +kernel, by decide +kernel⟩, List.mem_of_getElem? (i := 155) (by decide +kernel), List.mem_of_getElem? (i := 550) (by decide +kernel), List.mem_of_getElem? (i := 551) (by decide +kernel)⟩
theorem lw_p13 : lw_okq (⟨"PullSaw$Work", "cutBy", "(LPullSaw$Yard;I)I"⟩, 13) := ⟨⟨by decide +kernel, by decide +kernel⟩, List.mem_of_getElem? (i := 155) (by decide +kernel), List.mem_of_getElem? (i := 559) (by decide +kernel), List.mem_of_getElem? (i := 560) (by decide +kernel)⟩
theorem lw_p14 : lw_okq (⟨"PullSaw$Work", "tire", "(II)V"⟩, 13) := ⟨⟨by decide +kernel, by decide +kernel⟩, List.mem_of_getElem? (i := 155) (by decide +kernel), List.mem_of_getElem? (i := 563) (by decide +kernel), List.mem_of_getElem? (i := 564) (by decide +kernel)⟩
theorem lw_p15 : lw_okq (⟨"PullSaw$Work", "feel", "(III)V"⟩, 13) := ⟨⟨by decide +kernel, by decide +kernel⟩, List.mem_of_getElem? (i := 155) (by decide +kernel), List.mem_of_getElem? (i := 568) (by decide +kernel), List.mem_of_getElem? (i := 569) (by decide +kernel)⟩
def lw_privs_1 : List (MethodName × Nat) := [(⟨"PullSaw$Reader", "skipBlanks", "()V"⟩, 7), (⟨"PullSaw$Reader", "readClause", "()V"⟩, 7), (⟨"PullSaw$Reader", "faultOfWord", "(I)I"⟩, 7), (⟨"PullSaw$Reader", "markFault", "(II)V"⟩, 7), (⟨"PullSaw$Reader", "readLayers", "()V"⟩, 7), (⟨"PullSaw$Reader", "readNumber", "(II)I"⟩, 7), (⟨"PullSaw$Reader", "readEnd", "()V"⟩, 7), (⟨"PullSaw$Reader", "readPerson", "()V"⟩, 7), (⟨"PullSaw$Reader", "readSaw", "()V"⟩, 7), (⟨"PullSaw", "refusalOfTwo", "(II)I"⟩, 11), (⟨"PullSaw", "refusalOfSawing", "(I)I"⟩, 11), (⟨"PullSaw$Past", "placeAt", "(I)LPullSaw$Work;"⟩, 3), (⟨"PullSaw$Work", "pullOf", "(LPullSaw$Yard;II)I"⟩, 13), (⟨"PullSaw$Work", "cutBy", "(LPullSaw$Yard;I)I"⟩, 13), (⟨"PullSaw$Work", "tire", "(II)V"⟩, 13), (⟨"PullSaw$Work", "feel", "(III)V"⟩, 13)]
theorem lw_r1 : ∀ q ∈ lw_privs_1, lw_okq q := List.forall_mem_cons.mpr ⟨lw_p0, List.forall_mem_cons.mpr ⟨lw_p1, List.forall_mem_cons.mpr ⟨lw_p2, List.forall_mem_cons.mpr ⟨lw_p3, List.forall_mem_cons.mpr ⟨lw_p4, List.forall_mem_cons.mpr ⟨lw_p5, List.forall_mem_cons.mpr ⟨lw_p6, List.forall_mem_cons.mpr ⟨lw_p7, List.forall_mem_cons.mpr ⟨lw_p8, List.forall_mem_cons.mpr ⟨lw_p9, List.forall_mem_cons.mpr ⟨lw_p10, List.forall_mem_cons.mpr ⟨lw_p11, List.forall_mem_cons.mpr ⟨lw_p12, List.forall_mem_cons.mpr ⟨lw_p13, List.forall_mem_cons.mpr ⟨lw_p14, List.forall_mem_cons.mpr ⟨lw_p15, fun _ h => absurd h List.not_mem_nil⟩⟩⟩⟩⟩⟩⟩⟩⟩⟩⟩⟩⟩⟩⟩⟩
theorem lw_p16 : lw_okq (⟨"PullSaw", "changeRow", "([III)I"⟩, 11) := ⟨⟨by decide +kernel, by decide +kernel⟩, List.mem_of_getElem? (i := 15) (by decide +kernel), List.mem_of_getElem? (i := 608) (by decide +kernel), List.mem_of_getElem? (i := 609) (by decide +kernel)⟩
theorem lw_p17 : lw_okq (⟨"PullSaw", "driftOnce", "()V"⟩, 11) := ⟨⟨by decide +kernel, by decide +kernel⟩, List.mem_of_getElem? (i := 15) (by decide +kernel), List.mem_of_getElem? (i := 621) (by decide +kernel), List.mem_of_getElem? (i := 622) (by decide +kernel)⟩
theorem lw_p18 : lw_okq (⟨"PullSaw", "drawEighth", "()I"⟩, 11) := ⟨⟨by decide +kernel, by decide +kernel⟩, List.mem_of_getElem? (i := 15) (by decide +kernel), List.mem_of_getElem? (i := 625) (by decide +kernel), List.mem_of_getElem? (i := 626) (by decide +kernel)⟩
theorem lw_p19 : lw_okq (⟨"PullSaw$Trial", "strokesThrough", "(LPullSaw$Yard;LPullSaw$Work;I)I"⟩, 10) := ⟨⟨by decide +kernel, by decide +kernel⟩, List.mem_of_getElem? (i := 243) (by decide +kernel), List.mem_of_getElem? (i := 649) (by decide +kernel), List.mem_of_getElem? (i := 650) (by decide +kernel)⟩
theorem lw_p20 : lw_okq (⟨"PullSaw$Trial", "isNoFresher", "(LPullSaw$Work;)Z"⟩, 10) := ⟨⟨by decide +kernel, by decide +kernel⟩, List.mem_of_getElem? (i := 243) (by decide +kernel), List.mem_of_getElem? (i := 655) (by decide +kernel), List.mem_of_getElem? (i := 656) (by decide +kernel)⟩
theorem lw_p21 : lw_okq (⟨"PullSaw$Trial", "rememberPair", "(LPullSaw$Work;)V"⟩, 10) := ⟨⟨by decide +kernel, by decide +kernel⟩, List.mem_of_getElem? (i := 243) (by decide +kernel), List.mem_of_getElem? (i := 660) (by decide +kernel), List.mem_of_getElem? (i := 661) (by decide +kernel)⟩
theorem lw_p22 : lw_okq (⟨"PullSaw$Trial", "begin", "(LPullSaw$Yard;LPullSaw$Work;II)V"⟩, 10) := ⟨⟨by decide +kernel, by decide +kernel⟩, List.mem_of_getElem? (i := 243) (by decide +kernel), List.mem_of_getElem? (i := 675) (by decide +kernel), List.mem_of_getElem? (i := 676) (by decide +kernel)⟩
theorem lw_p23 : lw_okq (⟨"PullSaw$Balance", "stepBack", "()V"⟩, 7) := ⟨⟨by decide +kernel, by decide +kernel⟩, List.mem_of_getElem? (i := 286) (by decide +kernel), List.mem_of_getElem? (i := 727) (by decide +kernel), List.mem_of_getElem? (i := 728) (by decide +kernel)⟩
theorem lw_p24 : lw_okq (⟨"PullSaw$Balance", "weighAhead", "(II)V"⟩, 7) := ⟨⟨by decide +kernel, by decide +kernel⟩, List.mem_of_getElem? (i := 286) (by decide +kernel), List.mem_of_getElem? (i := 731) (by decide +kernel), List.mem_of_getElem? (i := 732) (by decide +kernel)⟩
theorem lw_p25 : lw_okq (⟨"PullSaw$Balance", "costOfStay", "(II)I"⟩, 7) := ⟨⟨by decide +kernel, by decide +kernel⟩, List.mem_of_getElem? (i := 286) (by decide +kernel), List.mem_of_getElem? (i := 735) (by decide +kernel), List.mem_of_getElem? (i := 736) (by decide +kernel)⟩
theorem lw_p26 : lw_okq (⟨"PullSaw$Balance", "costBehind", "(II)I"⟩, 7) := ⟨⟨by decide +kernel, by decide +kernel⟩, List.mem_of_getElem? (i := 286) (by decide +kernel), List.mem_of_getElem? (i := 739) (by decide +kernel), List.mem_of_getElem? (i := 740) (by decide +kernel)⟩
theorem lw_p27 : lw_okq (⟨"PullSaw$Balance", "costOfChange", "(II)I"⟩, 7) := ⟨⟨by decide +kernel, by decide +kernel⟩, List.mem_of_getElem? (i := 286) (by decide +kernel), List.mem_of_getElem? (i := 748) (by decide +kernel), List.mem_of_getElem? (i := 749) (by decide +kernel)⟩
theorem lw_p28 : lw_okq (⟨"PullSaw$Trial", "depthBehind", "(LPullSaw$Yard;LPullSaw$Work;II)I"⟩, 10) := ⟨⟨by decide +kernel, by decide +kernel⟩, List.mem_of_getElem? (i := 243) (by decide +kernel), List.mem_of_getElem? (i := 776) (by decide +kernel), List.mem_of_getElem? (i := 777) (by decide +kernel)⟩
theorem lw_p29 : lw_okq (⟨"PullSaw$Trial", "firstWrong", "(LPullSaw$Yard;LPullSaw$Sheet;)I"⟩, 10) := ⟨⟨by decide +kernel, by decide +kernel⟩, List.mem_of_getElem? (i := 243) (by decide +kernel), List.mem_of_getElem? (i := 807) (by decide +kernel), List.mem_of_getElem? (i := 808) (by decide +kernel)⟩
theorem lw_p30 : lw_okq (⟨"PullSaw$Trial", "fits", "(LPullSaw$Yard;LPullSaw$Work;IILPullSaw$Sheet;)Z"⟩, 10) := ⟨⟨by decide +kernel, by decide +kernel⟩, List.mem_of_getElem? (i := 243) (by decide +kernel), List.mem_of_getElem? (i := 820) (by decide +kernel), List.mem_of_getElem? (i := 821) (by decide +kernel)⟩
theorem lw_p31 : lw_okq (⟨"PullSawModel", "here", "()I"⟩, 35) := ⟨⟨by decide +kernel, by decide +kernel⟩, List.mem_of_getElem? (i := 853) (by decide +kernel), List.mem_of_getElem? (i := 980) (by decide +kernel), List.mem_of_getElem? (i := 981) (by decide +kernel)⟩
def lw_privs_2 : List (MethodName × Nat) := [(⟨"PullSaw", "changeRow", "([III)I"⟩, 11), (⟨"PullSaw", "driftOnce", "()V"⟩, 11), (⟨"PullSaw", "drawEighth", "()I"⟩, 11), (⟨"PullSaw$Trial", "strokesThrough", "(LPullSaw$Yard;LPullSaw$Work;I)I"⟩, 10), (⟨"PullSaw$Trial", "isNoFresher", "(LPullSaw$Work;)Z"⟩, 10), (⟨"PullSaw$Trial", "rememberPair", "(LPullSaw$Work;)V"⟩, 10), (⟨"PullSaw$Trial", "begin", "(LPullSaw$Yard;LPullSaw$Work;II)V"⟩, 10), (⟨"PullSaw$Balance", "stepBack", "()V"⟩, 7), (⟨"PullSaw$Balance", "weighAhead", "(II)V"⟩, 7), (⟨"PullSaw$Balance", "costOfStay", "(II)I"⟩, 7), (⟨"PullSaw$Balance", "costBehind", "(II)I"⟩, 7), (⟨"PullSaw$Balance", "costOfChange", "(II)I"⟩, 7), (⟨"PullSaw$Trial", "depthBehind", "(LPullSaw$Yard;LPullSaw$Work;II)I"⟩, 10), (⟨"PullSaw$Trial", "firstWrong", "(LPullSaw$Yard;LPullSaw$Sheet;)I"⟩, 10), (⟨"PullSaw$Trial", "fits", "(LPullSaw$Yard;LPullSaw$Work;IILPullSaw$Sheet;)Z"⟩, 10), (⟨"PullSawModel", "here", "()I"⟩, 35)]
theorem lw_r2 : ∀ q ∈ lw_privs_2, lw_okq q := List.forall_mem_cons.mpr ⟨lw_p16, List.forall_mem_cons.mpr ⟨lw_p17, List.forall_mem_cons.mpr ⟨lw_p18, List.forall_mem_cons.mpr ⟨lw_p19, List.forall_mem_cons.mpr ⟨lw_p20, List.forall_mem_cons.mpr ⟨lw_p21, List.forall_mem_cons.mpr ⟨lw_p22, List.forall_mem_cons.mpr ⟨lw_p23, List.forall_mem_cons.mpr ⟨lw_p24, List.forall_mem_cons.mpr ⟨lw_p25, List.forall_mem_cons.mpr ⟨lw_p26, List.forall_mem_cons.mpr ⟨lw_p27, List.forall_mem_cons.mpr ⟨lw_p28, List.forall_mem_cons.mpr ⟨lw_p29, List.forall_mem_cons.mpr ⟨lw_p30, List.forall_mem_cons.mpr ⟨lw_p31, fun _ h => absurd h List.not_mem_nil⟩⟩⟩⟩⟩⟩⟩⟩⟩⟩⟩⟩⟩⟩⟩⟩
theorem lw_p32 : lw_okq (⟨"PullSawModel", "takeClause", "()V"⟩, 35) := ⟨⟨by decide +kernel, by decide +kernel⟩, List.mem_of_getElem? (i := 853) (by decide +kernel), List.mem_of_getElem? (i := 984) (by decide +kernel), List.mem_of_getElem? (i := 985) (by decide +kernel)⟩
theorem lw_p33 : lw_okq (⟨"PullSawModel", "want", "(ZII)Z"⟩, 35) := ⟨⟨by decide +kernel, by decide +kernel⟩, List.mem_of_getElem? (i := 853) (by decide +kernel), List.mem_of_getElem? (i := 994) (by decide +kernel), List.mem_of_getElem? (i := 995) (by decide +kernel)⟩
theorem lw_p34 : lw_okq (⟨"PullSawModel", "takeLog", "()V"⟩, 35) := ⟨⟨by decide +kernel, by decide +kernel⟩, List.mem_of_getElem? (i := 853) (by decide +kernel), List.mem_of_getElem? (i := 998) (by decide +kernel), List.mem_of_getElem? (i := 999) (by decide +kernel)⟩
theorem lw_p35 : lw_okq (⟨"PullSawModel", "takeNumber", "(II)I"⟩, 35) := ⟨⟨by decide +kernel, by decide +kernel⟩, List.mem_of_getElem? (i := 853) (by decide +kernel), List.mem_of_getElem? (i := 1002) (by decide +kernel), List.mem_of_getElem? (i := 1003) (by decide +kernel)⟩
theorem lw_p36 : lw_okq (⟨"PullSawModel", "takePerson", "()V"⟩, 35) := ⟨⟨by decide +kernel, by decide +kernel⟩, List.mem_of_getElem? (i := 853) (by decide +kernel), List.mem_of_getElem? (i := 1009) (by decide +kernel), List.mem_of_getElem? (i := 1010) (by decide +kernel)⟩
theorem lw_p37 : lw_okq (⟨"PullSawModel", "take", "()V"⟩, 35) := ⟨⟨by decide +kernel, by decide +kernel⟩, List.mem_of_getElem? (i := 853) (by decide +kernel), List.mem_of_getElem? (i := 1013) (by decide +kernel), List.mem_of_getElem? (i := 1014) (by decide +kernel)⟩
theorem lw_p38 : lw_okq (⟨"PullSawModel", "begin", "(III)V"⟩, 35) := ⟨⟨by decide +kernel, by decide +kernel⟩, List.mem_of_getElem? (i := 853) (by decide +kernel), List.mem_of_getElem? (i := 1017) (by decide +kernel), List.mem_of_getElem? (i := 1018) (by decide +kernel)⟩
theorem lw_p39 : lw_okq (⟨"PullSawModel", "isThrough", "(I)Z"⟩, 35) := ⟨⟨by decide +kernel, by decide +kernel⟩, List.mem_of_getElem? (i := 853) (by decide +kernel), List.mem_of_getElem? (i := 1029) (by decide +kernel), List.mem_of_getElem? (i := 1030) (by decide +kernel)⟩
theorem lw_p40 : lw_okq (⟨"PullSawModel", "isPerson", "(I)Z"⟩, 35) := ⟨⟨by decide +kernel, by decide +kernel⟩, List.mem_of_getElem? (i := 853) (by decide +kernel), List.mem_of_getElem? (i := 1045) (by decide +kernel), List.mem_of_getElem? (i := 1046) (by decide +kernel)⟩
theorem lw_p41 : lw_okq (⟨"PullSawModel", "isPair", "()Z"⟩, 35) := ⟨⟨by decide +kernel, by decide +kernel⟩, List.mem_of_getElem? (i := 853) (by decide +kernel), List.mem_of_getElem? (i := 1059) (by decide +kernel), List.mem_of_getElem? (i := 1060) (by decide +kernel)⟩
theorem lw_p42 : lw_okq (⟨"PullSawModel", "remember", "()V"⟩, 35) := ⟨⟨by decide +kernel, by decide +kernel⟩, List.mem_of_getElem? (i := 853) (by decide +kernel), List.mem_of_getElem? (i := 1063) (by decide +kernel), List.mem_of_getElem? (i := 1064) (by decide +kernel)⟩
theorem lw_p43 : lw_okq (⟨"PullSawModel", "copy", "(II)V"⟩, 35) := ⟨⟨by decide +kernel, by decide +kernel⟩, List.mem_of_getElem? (i := 853) (by decide +kernel), List.mem_of_getElem? (i := 1067) (by decide +kernel), List.mem_of_getElem? (i := 1068) (by decide +kernel)⟩
theorem lw_p44 : lw_okq (⟨"PullSawModel", "pull", "(I)I"⟩, 35) := ⟨⟨by decide +kernel, by decide +kernel⟩, List.mem_of_getElem? (i := 853) (by decide +kernel), List.mem_of_getElem? (i := 1071) (by decide +kernel), List.mem_of_getElem? (i := 1072) (by decide +kernel)⟩
theorem lw_p45 : lw_okq (⟨"PullSawModel", "pullOf", "(III)I"⟩, 35) := ⟨⟨by decide +kernel, by decide +kernel⟩, List.mem_of_getElem? (i := 853) (by decide +kernel), List.mem_of_getElem? (i := 1075) (by decide +kernel), List.mem_of_getElem? (i := 1076) (by decide +kernel)⟩
theorem lw_p46 : lw_okq (⟨"PullSawModel", "tire", "(II)V"⟩, 35) := ⟨⟨by decide +kernel, by decide +kernel⟩, List.mem_of_getElem? (i := 853) (by decide +kernel), List.mem_of_getElem? (i := 1079) (by decide +kernel), List.mem_of_getElem? (i := 1080) (by decide +kernel)⟩
theorem lw_p47 : lw_okq (⟨"PullSawModel", "feel", "(III)V"⟩, 35) := ⟨⟨by decide +kernel, by decide +kernel⟩, List.mem_of_getElem? (i := 853) (by decide +kernel), List.mem_of_getElem? (i := 1083) (by decide +kernel), List.mem_of_getElem? (i := 1084) (by decide +kernel)⟩
def lw_privs_3 : List (MethodName × Nat) := [(⟨"PullSawModel", "takeClause", "()V"⟩, 35), (⟨"PullSawModel", "want", "(ZII)Z"⟩, 35), (⟨"PullSawModel", "takeLog", "()V"⟩, 35), (⟨"PullSawModel", "takeNumber", "(II)I"⟩, 35), (⟨"PullSawModel", "takePerson", "()V"⟩, 35), (⟨"PullSawModel", "take", "()V"⟩, 35), (⟨"PullSawModel", "begin", "(III)V"⟩, 35), (⟨"PullSawModel", "isThrough", "(I)Z"⟩, 35), (⟨"PullSawModel", "isPerson", "(I)Z"⟩, 35), (⟨"PullSawModel", "isPair", "()Z"⟩, 35), (⟨"PullSawModel", "remember", "()V"⟩, 35), (⟨"PullSawModel", "copy", "(II)V"⟩, 35), (⟨"PullSawModel", "pull", "(I)I"⟩, 35), (⟨"PullSawModel", "pullOf", "(III)I"⟩, 35), (⟨"PullSawModel", "tire", "(II)V"⟩, 35), (⟨"PullSawModel", "feel", "(III)V"⟩, 35)]
theorem lw_r3 : ∀ q ∈ lw_privs_3, lw_okq q := List.forall_mem_cons.mpr ⟨lw_p32, List.forall_mem_cons.mpr ⟨lw_p33, List.forall_mem_cons.mpr ⟨lw_p34, List.forall_mem_cons.mpr ⟨lw_p35, List.forall_mem_cons.mpr ⟨lw_p36, List.forall_mem_cons.mpr ⟨lw_p37, List.forall_mem_cons.mpr ⟨lw_p38, List.forall_mem_cons.mpr ⟨lw_p39, List.forall_mem_cons.mpr ⟨lw_p40, List.forall_mem_cons.mpr ⟨lw_p41, List.forall_mem_cons.mpr ⟨lw_p42, List.forall_mem_cons.mpr ⟨lw_p43, List.forall_mem_cons.mpr ⟨lw_p44, List.forall_mem_cons.mpr ⟨lw_p45, List.forall_mem_cons.mpr ⟨lw_p46, List.forall_mem_cons.mpr ⟨lw_p47, fun _ h => absurd h List.not_mem_nil⟩⟩⟩⟩⟩⟩⟩⟩⟩⟩⟩⟩⟩⟩⟩⟩
theorem lw_p48 : lw_okq (⟨"PullSawModel", "relax", "(II)V"⟩, 35) := ⟨⟨by decide +kernel, by decide +kernel⟩, List.mem_of_getElem? (i := 853) (by decide +kernel), List.mem_of_getElem? (i := 1092) (by decide +kernel), List.mem_of_getElem? (i := 1093) (by decide +kernel)⟩
theorem lw_p49 : lw_okq (⟨"PullSawModel", "become", "(II)I"⟩, 35) := ⟨⟨by decide +kernel, by decide +kernel⟩, List.mem_of_getElem? (i := 853) (by decide +kernel), List.mem_of_getElem? (i := 1117) (by decide +kernel), List.mem_of_getElem? (i := 1118) (by decide +kernel)⟩
theorem lw_p50 : lw_okq (⟨"PullSawModel", "draw", "(I)I"⟩, 35) := ⟨⟨by decide +kernel, by decide +kernel⟩, List.mem_of_getElem? (i := 853) (by decide +kernel), List.mem_of_getElem? (i := 1130) (by decide +kernel), List.mem_of_getElem? (i := 1131) (by decide +kernel)⟩
theorem lw_p51 : lw_okq (⟨"PullSawModel", "goOnNow", "()I"⟩, 35) := ⟨⟨by decide +kernel, by decide +kernel⟩, List.mem_of_getElem? (i := 853) (by decide +kernel), List.mem_of_getElem? (i := 1147) (by decide +kernel), List.mem_of_getElem? (i := 1148) (by decide +kernel)⟩
theorem lw_p52 : lw_okq (⟨"PullSawModel", "goOn", "(I)I"⟩, 35) := ⟨⟨by decide +kernel, by decide +kernel⟩, List.mem_of_getElem? (i := 853) (by decide +kernel), List.mem_of_getElem? (i := 1151) (by decide +kernel), List.mem_of_getElem? (i := 1152) (by decide +kernel)⟩
theorem lw_p53 : lw_okq (⟨"PullSawModel", "refusedTwo", "(II)I"⟩, 35) := ⟨⟨by decide +kernel, by decide +kernel⟩, List.mem_of_getElem? (i := 853) (by decide +kernel), List.mem_of_getElem? (i := 1160) (by decide +kernel), List.mem_of_getElem? (i := 1161) (by decide +kernel)⟩
theorem lw_p54 : lw_okq (⟨"PullSawModel", "freshOf", "(II)I"⟩, 35) := ⟨⟨by decide +kernel, by decide +kernel⟩, List.mem_of_getElem? (i := 853) (by decide +kernel), List.mem_of_getElem? (i := 1164) (by decide +kernel), List.mem_of_getElem? (i := 1165) (by decide +kernel)⟩
theorem lw_p55 : lw_okq (⟨"PullSawModel", "beginFresh", "(II)V"⟩, 35) := ⟨⟨by decide +kernel, by decide +kernel⟩, List.mem_of_getElem? (i := 853) (by decide +kernel), List.mem_of_getElem? (i := 1168) (by decide +kernel), List.mem_of_getElem? (i := 1169) (by decide +kernel)⟩
theorem lw_p56 : lw_okq (⟨"PullSawModel", "quarrels", "(I)Z"⟩, 35) := ⟨⟨by decide +kernel, by decide +kernel⟩, List.mem_of_getElem? (i := 853) (by decide +kernel), List.mem_of_getElem? (i := 1181) (by decide +kernel), List.mem_of_getElem? (i := 1182) (by decide +kernel)⟩
theorem lw_p57 : lw_okq (⟨"PullSawModel", "lay", "(III)V"⟩, 35) := ⟨⟨by decide +kernel, by decide +kernel⟩, List.mem_of_getElem? (i := 853) (by decide +kernel), List.mem_of_getElem? (i := 1194) (by decide +kernel), List.mem_of_getElem? (i := 1195) (by decide +kernel)⟩
theorem lw_p58 : lw_okq (⟨"PullSawModel", "depthBy", "(II)I"⟩, 35) := ⟨⟨by decide +kernel, by decide +kernel⟩, List.mem_of_getElem? (i := 853) (by decide +kernel), List.mem_of_getElem? (i := 1207) (by decide +kernel), List.mem_of_getElem? (i := 1208) (by decide +kernel)⟩
theorem lw_p59 : lw_okq (⟨"PullSawModel", "isAsSeen", "()Z"⟩, 35) := ⟨⟨by decide +kernel, by decide +kernel⟩, List.mem_of_getElem? (i := 853) (by decide +kernel), List.mem_of_getElem? (i := 1226) (by decide +kernel), List.mem_of_getElem? (i := 1227) (by decide +kernel)⟩
def lw_privs_4 : List (MethodName × Nat) := [(⟨"PullSawModel", "relax", "(II)V"⟩, 35), (⟨"PullSawModel", "become", "(II)I"⟩, 35), (⟨"PullSawModel", "draw", "(I)I"⟩, 35), (⟨"PullSawModel", "goOnNow", "()I"⟩, 35), (⟨"PullSawModel", "goOn", "(I)I"⟩, 35), (⟨"PullSawModel", "refusedTwo", "(II)I"⟩, 35), (⟨"PullSawModel", "freshOf", "(II)I"⟩, 35), (⟨"PullSawModel", "beginFresh", "(II)V"⟩, 35), (⟨"PullSawModel", "quarrels", "(I)Z"⟩, 35), (⟨"PullSawModel", "lay", "(III)V"⟩, 35), (⟨"PullSawModel", "depthBy", "(II)I"⟩, 35), (⟨"PullSawModel", "isAsSeen", "()Z"⟩, 35)]
theorem lw_r4 : ∀ q ∈ lw_privs_4, lw_okq q := List.forall_mem_cons.mpr ⟨lw_p48, List.forall_mem_cons.mpr ⟨lw_p49, List.forall_mem_cons.mpr ⟨lw_p50, List.forall_mem_cons.mpr ⟨lw_p51, List.forall_mem_cons.mpr ⟨lw_p52, List.forall_mem_cons.mpr ⟨lw_p53, List.forall_mem_cons.mpr ⟨lw_p54, List.forall_mem_cons.mpr ⟨lw_p55, List.forall_mem_cons.mpr ⟨lw_p56, List.forall_mem_cons.mpr ⟨lw_p57, List.forall_mem_cons.mpr ⟨lw_p58, List.forall_mem_cons.mpr ⟨lw_p59, fun _ h => absurd h List.not_mem_nil⟩⟩⟩⟩⟩⟩⟩⟩⟩⟩⟩⟩
def lw_privs : List (MethodName × Nat) := lw_privs_1 ++ (lw_privs_2 ++ (lw_privs_3 ++ (lw_privs_4)))
def lw_tbl : List Cond := k2_sels lw_privs ++ tables_1
theorem lw_privs_ok : ∀ q ∈ lw_privs, lw_okq q := by
  show ∀ q ∈ lw_privs_1 ++ (lw_privs_2 ++ (lw_privs_3 ++ (lw_privs_4))), lw_okq q
  exact List.forall_mem_append.mpr ⟨lw_r1, List.forall_mem_append.mpr ⟨lw_r2, List.forall_mem_append.mpr ⟨lw_r3, lw_r4⟩⟩⟩
end
section
def RX0 : String := "PullSaw$Balance"
def TX0 : u_T := fun k => match k with
  | 0 => ("PullSaw$Balance", "fewest", "I", false)
  | 1 => ("PullSaw$Balance", "latestFirst", "I", false)
  | 2 => ("PullSaw$Balance", "askew", "I", false)
  | 3 => ("PullSaw$Balance", "lean", "I", false)
  | 4 => ("PullSaw$Balance", "most", "I", false)
  | 5 => ("PullSaw$Balance", "costs", "[I", false)
  | _ => ("PullSaw$Balance", "laterCosts", "[I", false)
def tyX0 : Nat → FieldType := fun k => match k with
  | 0 => .int
  | 1 => .int
  | 2 => .int
  | 3 => .int
  | 4 => .int
  | 5 => .array .int
  | _ => .array .int
abbrev wsX00 : List Cond := u_ws RX0 TX0 7
theorem nmX0 : ∀ a, a < 7 → ∀ b, b < 7 → a ≠ b → (TX0 a).2.1 ≠ (TX0 b).2.1 := by decide +kernel
theorem tyX0_ok : ∀ k, k < 7 → parseFieldDescriptor (TX0 k).2.2.1 = some (tyX0 k) := by decide +kernel
abbrev cX0_init : ByteArray := prog_2_method_1_code
def yX0_init : MethodName := ⟨RX0, "<init>", "()V"⟩
abbrev cX0_weigh : ByteArray := prog_2_method_2_code
def yX0_weigh : MethodName := ⟨RX0, "weigh", "(IIII)V"⟩
abbrev cX0_stepBack : ByteArray := prog_2_method_3_code
def yX0_stepBack : MethodName := ⟨RX0, "stepBack", "()V"⟩
abbrev cX0_weighAhead : ByteArray := prog_2_method_4_code
def yX0_weighAhead : MethodName := ⟨RX0, "weighAhead", "(II)V"⟩
abbrev cX0_costOfStay : ByteArray := prog_2_method_5_code
def yX0_costOfStay : MethodName := ⟨RX0, "costOfStay", "(II)I"⟩
abbrev cX0_costOfChange : ByteArray := prog_2_method_6_code
def yX0_costOfChange : MethodName := ⟨RX0, "costOfChange", "(II)I"⟩
abbrev cX0_costBehind : ByteArray := prog_2_method_7_code
def yX0_costBehind : MethodName := ⟨RX0, "costBehind", "(II)I"⟩
abbrev cX0_place : ByteArray := prog_2_method_8_code
def yX0_place : MethodName := ⟨RX0, "place", "(II)I"⟩
def RX1 : String := "PullSaw$Image"
def TX1 : u_T := fun k => match k with
  | 0 => ("PullSaw$Image", "work", "LPullSaw$Work;", true)
  | 1 => ("PullSaw$Image", "seed", "I", false)
  | _ => ("PullSaw$Image", "kept", "Z", false)
def tyX1 : Nat → FieldType := fun k => match k with
  | 0 => .object "PullSaw$Work"
  | 1 => .int
  | _ => .boolean
abbrev wsX10 : List Cond := u_ws RX1 TX1 3
theorem nmX1 : ∀ a, a < 3 → ∀ b, b < 3 → a ≠ b → (TX1 a).2.1 ≠ (TX1 b).2.1 := by decide +kernel
theorem tyX1_ok : ∀ k, k < 3 → parseFieldDescriptor (TX1 k).2.2.1 = some (tyX1 k) := by decide +kernel
abbrev cX1_init : ByteArray := prog_3_method_1_code
def yX1_init : MethodName := ⟨RX1, "<init>", "()V"⟩
def RX2 : String := "PullSaw$Past"
def TX2 : u_T := fun k => match k with
  | 0 => ("PullSaw$Past", "count", "I", false)
  | 1 => ("PullSaw$Past", "top", "I", false)
  | _ => ("PullSaw$Past", "ring", "[LPullSaw$Work;", true)
def tyX2 : Nat → FieldType := fun k => match k with
  | 0 => .int
  | 1 => .int
  | _ => .array (.object "PullSaw$Work")
abbrev wsX20 : List Cond := u_ws RX2 TX2 3
theorem nmX2 : ∀ a, a < 3 → ∀ b, b < 3 → a ≠ b → (TX2 a).2.1 ≠ (TX2 b).2.1 := by decide +kernel
theorem tyX2_ok : ∀ k, k < 3 → parseFieldDescriptor (TX2 k).2.2.1 = some (tyX2 k) := by decide +kernel
abbrev cX2_init : ByteArray := prog_4_method_1_code
def yX2_init : MethodName := ⟨RX2, "<init>", "()V"⟩
abbrev cX2_clear : ByteArray := prog_4_method_2_code
def yX2_clear : MethodName := ⟨RX2, "clear", "()V"⟩
abbrev cX2_remember : ByteArray := prog_4_method_3_code
def yX2_remember : MethodName := ⟨RX2, "remember", "(LPullSaw$Work;)V"⟩
abbrev cX2_bringBack : ByteArray := prog_4_method_4_code
def yX2_bringBack : MethodName := ⟨RX2, "bringBack", "(ILPullSaw$Work;)V"⟩
abbrev cX2_placeAt : ByteArray := prog_4_method_5_code
def yX2_placeAt : MethodName := ⟨RX2, "placeAt", "(I)LPullSaw$Work;"⟩
def RX3 : String := "PullSaw$Reader"
def TX3 : u_T := fun k => match k with
  | 0 => ("PullSaw$Reader", "text", "LPullSaw$Sheet;", true)
  | 1 => ("PullSaw$Reader", "draft", "LPullSaw$Yard;", true)
  | 2 => ("PullSaw$Reader", "faultKind", "I", false)
  | 3 => ("PullSaw$Reader", "faultPlace", "I", false)
  | 4 => ("PullSaw$Reader", "place", "I", false)
  | 5 => ("PullSaw$Reader", "sawTold", "Z", false)
  | _ => ("PullSaw$Reader", "closeTold", "Z", false)
def tyX3 : Nat → FieldType := fun k => match k with
  | 0 => .object "PullSaw$Sheet"
  | 1 => .object "PullSaw$Yard"
  | 2 => .int
  | 3 => .int
  | 4 => .int
  | 5 => .boolean
  | _ => .boolean
abbrev wsX30 : List Cond := u_ws RX3 TX3 7
theorem nmX3 : ∀ a, a < 7 → ∀ b, b < 7 → a ≠ b → (TX3 a).2.1 ≠ (TX3 b).2.1 := by decide +kernel
theorem tyX3_ok : ∀ k, k < 7 → parseFieldDescriptor (TX3 k).2.2.1 = some (tyX3 k) := by decide +kernel
abbrev cX3_init : ByteArray := prog_5_method_1_code
def yX3_init : MethodName := ⟨RX3, "<init>", "()V"⟩
abbrev cX3_readText : ByteArray := prog_5_method_2_code
def yX3_readText : MethodName := ⟨RX3, "readText", "()V"⟩
abbrev cX3_readClause : ByteArray := prog_5_method_3_code
def yX3_readClause : MethodName := ⟨RX3, "readClause", "()V"⟩
abbrev cX3_faultOfWord : ByteArray := prog_5_method_4_code
def yX3_faultOfWord : MethodName := ⟨RX3, "faultOfWord", "(I)I"⟩
abbrev cX3_readLayers : ByteArray := prog_5_method_5_code
def yX3_readLayers : MethodName := ⟨RX3, "readLayers", "()V"⟩
abbrev cX3_readPerson : ByteArray := prog_5_method_6_code
def yX3_readPerson : MethodName := ⟨RX3, "readPerson", "()V"⟩
abbrev cX3_readSaw : ByteArray := prog_5_method_7_code
def yX3_readSaw : MethodName := ⟨RX3, "readSaw", "()V"⟩
abbrev cX3_readEnd : ByteArray := prog_5_method_8_code
def yX3_readEnd : MethodName := ⟨RX3, "readEnd", "()V"⟩
abbrev cX3_readNumber : ByteArray := prog_5_method_9_code
def yX3_readNumber : MethodName := ⟨RX3, "readNumber", "(II)I"⟩
abbrev cX3_skipBlanks : ByteArray := prog_5_method_10_code
def yX3_skipBlanks : MethodName := ⟨RX3, "skipBlanks", "()V"⟩
abbrev cX3_isFigure : ByteArray := prog_5_method_11_code
def yX3_isFigure : MethodName := ⟨RX3, "isFigure", "(I)Z"⟩
abbrev cX3_markFault : ByteArray := prog_5_method_12_code
def yX3_markFault : MethodName := ⟨RX3, "markFault", "(II)V"⟩
def RX4 : String := "PullSaw$Row"
def TX4 : u_T := fun k => match k with
  | _ => ("", "", "", false)
def tyX4 : Nat → FieldType := fun k => match k with
  | _ => .int
abbrev wsX40 : List Cond := u_ws RX4 TX4 0
theorem nmX4 : ∀ a, a < 0 → ∀ b, b < 0 → a ≠ b → (TX4 a).2.1 ≠ (TX4 b).2.1 := by decide +kernel
theorem tyX4_ok : ∀ k, k < 0 → parseFieldDescriptor (TX4 k).2.2.1 = some (tyX4 k) := by decide +kernel
abbrev cX4_at : ByteArray := prog_6_method_2_code
def yX4_at : MethodName := ⟨RX4, "at", "([II)I"⟩
abbrev cX4_put : ByteArray := prog_6_method_3_code
def yX4_put : MethodName := ⟨RX4, "put", "([III)V"⟩
abbrev cX4_copy : ByteArray := prog_6_method_4_code
def yX4_copy : MethodName := ⟨RX4, "copy", "([I[I)V"⟩
abbrev cX4_fill : ByteArray := prog_6_method_5_code
def yX4_fill : MethodName := ⟨RX4, "fill", "([II)V"⟩
def RX5 : String := "PullSaw$Sheet"
def TX5 : u_T := fun k => match k with
  | 0 => ("PullSaw$Sheet", "marks", "[I", true)
  | _ => ("PullSaw$Sheet", "count", "I", false)
def tyX5 : Nat → FieldType := fun k => match k with
  | 0 => .array .int
  | _ => .int
abbrev wsX50 : List Cond := u_ws RX5 TX5 2
theorem nmX5 : ∀ a, a < 2 → ∀ b, b < 2 → a ≠ b → (TX5 a).2.1 ≠ (TX5 b).2.1 := by decide +kernel
theorem tyX5_ok : ∀ k, k < 2 → parseFieldDescriptor (TX5 k).2.2.1 = some (tyX5 k) := by decide +kernel
abbrev cX5_init : ByteArray := prog_7_method_1_code
def yX5_init : MethodName := ⟨RX5, "<init>", "(I)V"⟩
abbrev cX5_add : ByteArray := prog_7_method_2_code
def yX5_add : MethodName := ⟨RX5, "add", "(I)Z"⟩
abbrev cX5_mark : ByteArray := prog_7_method_3_code
def yX5_mark : MethodName := ⟨RX5, "mark", "(I)I"⟩
abbrev cX5_clear : ByteArray := prog_7_method_4_code
def yX5_clear : MethodName := ⟨RX5, "clear", "()V"⟩
def RX6 : String := "PullSaw$Trial"
def TX6 : u_T := fun k => match k with
  | 0 => ("PullSaw$Trial", "fewest", "I", false)
  | 1 => ("PullSaw$Trial", "firstWish", "I", false)
  | 2 => ("PullSaw$Trial", "otherWish", "I", false)
  | 3 => ("PullSaw$Trial", "deepest", "I", false)
  | 4 => ("PullSaw$Trial", "leftTired", "I", false)
  | 5 => ("PullSaw$Trial", "rightTired", "I", false)
  | 6 => ("PullSaw$Trial", "leftAnswer", "I", false)
  | 7 => ("PullSaw$Trial", "rightAnswer", "I", false)
  | 8 => ("PullSaw$Trial", "tried", "LPullSaw$Work;", true)
  | _ => ("PullSaw$Trial", "further", "LPullSaw$Work;", true)
def tyX6 : Nat → FieldType := fun k => match k with
  | 0 => .int
  | 1 => .int
  | 2 => .int
  | 3 => .int
  | 4 => .int
  | 5 => .int
  | 6 => .int
  | 7 => .int
  | 8 => .object "PullSaw$Work"
  | _ => .object "PullSaw$Work"
abbrev wsX60 : List Cond := u_ws RX6 TX6 10
theorem nmX6 : ∀ a, a < 10 → ∀ b, b < 10 → a ≠ b → (TX6 a).2.1 ≠ (TX6 b).2.1 := by decide +kernel
theorem tyX6_ok : ∀ k, k < 10 → parseFieldDescriptor (TX6 k).2.2.1 = some (tyX6 k) := by decide +kernel
abbrev cX6_init : ByteArray := prog_8_method_1_code
def yX6_init : MethodName := ⟨RX6, "<init>", "()V"⟩
abbrev cX6_strokesFrom : ByteArray := prog_8_method_2_code
def yX6_strokesFrom : MethodName := ⟨RX6, "strokesFrom", "(LPullSaw$Yard;LPullSaw$Work;)I"⟩
abbrev cX6_strokesFresh : ByteArray := prog_8_method_3_code
def yX6_strokesFresh : MethodName := ⟨RX6, "strokesFresh", "(LPullSaw$Yard;LPullSaw$Work;II)I"⟩
abbrev cX6_begin : ByteArray := prog_8_method_4_code
def yX6_begin : MethodName := ⟨RX6, "begin", "(LPullSaw$Yard;LPullSaw$Work;II)V"⟩
abbrev cX6_strokesThrough : ByteArray := prog_8_method_5_code
def yX6_strokesThrough : MethodName := ⟨RX6, "strokesThrough", "(LPullSaw$Yard;LPullSaw$Work;I)I"⟩
abbrev cX6_rememberPair : ByteArray := prog_8_method_6_code
def yX6_rememberPair : MethodName := ⟨RX6, "rememberPair", "(LPullSaw$Work;)V"⟩
abbrev cX6_isNoFresher : ByteArray := prog_8_method_7_code
def yX6_isNoFresher : MethodName := ⟨RX6, "isNoFresher", "(LPullSaw$Work;)Z"⟩
abbrev cX6_findWishes : ByteArray := prog_8_method_8_code
def yX6_findWishes : MethodName := ⟨RX6, "findWishes", "(LPullSaw$Yard;LPullSaw$Work;II)V"⟩
abbrev cX6_quarrelStroke : ByteArray := prog_8_method_9_code
def yX6_quarrelStroke : MethodName := ⟨RX6, "quarrelStroke", "(LPullSaw$Yard;LPullSaw$Work;II)I"⟩
abbrev cX6_findMate : ByteArray := prog_8_method_10_code
def yX6_findMate : MethodName := ⟨RX6, "findMate", "(LPullSaw$Yard;LPullSaw$Work;)I"⟩
abbrev cX6_findWedge : ByteArray := prog_8_method_11_code
def yX6_findWedge : MethodName := ⟨RX6, "findWedge", "(LPullSaw$Yard;LPullSaw$Work;)I"⟩
abbrev cX6_findRests : ByteArray := prog_8_method_12_code
def yX6_findRests : MethodName := ⟨RX6, "findRests", "(LPullSaw$Yard;LPullSaw$Work;I)I"⟩
abbrev cX6_depthBehind : ByteArray := prog_8_method_13_code
def yX6_depthBehind : MethodName := ⟨RX6, "depthBehind", "(LPullSaw$Yard;LPullSaw$Work;II)I"⟩
abbrev cX6_turnedRound : ByteArray := prog_8_method_14_code
def yX6_turnedRound : MethodName := ⟨RX6, "turnedRound", "(II)I"⟩
abbrev cX6_gainByFile : ByteArray := prog_8_method_15_code
def yX6_gainByFile : MethodName := ⟨RX6, "gainByFile", "(LPullSaw$Yard;LPullSaw$Work;)I"⟩
abbrev cX6_habitsThatFit : ByteArray := prog_8_method_16_code
def yX6_habitsThatFit : MethodName := ⟨RX6, "habitsThatFit", "(LPullSaw$Yard;LPullSaw$Work;IILPullSaw$Sheet;)I"⟩
abbrev cX6_pairThatFits : ByteArray := prog_8_method_17_code
def yX6_pairThatFits : MethodName := ⟨RX6, "pairThatFits", "(LPullSaw$Yard;LPullSaw$Work;LPullSaw$Sheet;I)I"⟩
abbrev cX6_fits : ByteArray := prog_8_method_18_code
def yX6_fits : MethodName := ⟨RX6, "fits", "(LPullSaw$Yard;LPullSaw$Work;IILPullSaw$Sheet;)Z"⟩
abbrev cX6_wrongLine : ByteArray := prog_8_method_19_code
def yX6_wrongLine : MethodName := ⟨RX6, "wrongLine", "(LPullSaw$Yard;LPullSaw$Work;LPullSaw$Sheet;)I"⟩
abbrev cX6_firstWrong : ByteArray := prog_8_method_20_code
def yX6_firstWrong : MethodName := ⟨RX6, "firstWrong", "(LPullSaw$Yard;LPullSaw$Sheet;)I"⟩
def RX7 : String := "PullSaw$Work"
def TX7 : u_T := fun k => match k with
  | 0 => ("PullSaw$Work", "left", "I", false)
  | 1 => ("PullSaw$Work", "right", "I", false)
  | 2 => ("PullSaw$Work", "next", "I", false)
  | 3 => ("PullSaw$Work", "depth", "I", false)
  | 4 => ("PullSaw$Work", "strokes", "I", false)
  | 5 => ("PullSaw$Work", "askew", "I", false)
  | 6 => ("PullSaw$Work", "gum", "I", false)
  | 7 => ("PullSaw$Work", "teeth", "I", false)
  | 8 => ("PullSaw$Work", "wedged", "Z", false)
  | 9 => ("PullSaw$Work", "wishes", "[I", true)
  | 10 => ("PullSaw$Work", "habits", "[I", true)
  | 11 => ("PullSaw$Work", "tired", "[I", true)
  | _ => ("PullSaw$Work", "answers", "[I", true)
def tyX7 : Nat → FieldType := fun k => match k with
  | 0 => .int
  | 1 => .int
  | 2 => .int
  | 3 => .int
  | 4 => .int
  | 5 => .int
  | 6 => .int
  | 7 => .int
  | 8 => .boolean
  | 9 => .array .int
  | 10 => .array .int
  | 11 => .array .int
  | _ => .array .int
abbrev wsX70 : List Cond := u_ws RX7 TX7 13
theorem nmX7 : ∀ a, a < 13 → ∀ b, b < 13 → a ≠ b → (TX7 a).2.1 ≠ (TX7 b).2.1 := by decide +kernel
theorem tyX7_ok : ∀ k, k < 13 → parseFieldDescriptor (TX7 k).2.2.1 = some (tyX7 k) := by decide +kernel
abbrev cX7_init : ByteArray := prog_9_method_1_code
def yX7_init : MethodName := ⟨RX7, "<init>", "()V"⟩
abbrev cX7_become : ByteArray := prog_9_method_2_code
def yX7_become : MethodName := ⟨RX7, "become", "(LPullSaw$Work;)V"⟩
abbrev cX7_startYard : ByteArray := prog_9_method_3_code
def yX7_startYard : MethodName := ⟨RX7, "startYard", "(LPullSaw$Yard;)V"⟩
abbrev cX7_startLog : ByteArray := prog_9_method_4_code
def yX7_startLog : MethodName := ⟨RX7, "startLog", "(II)V"⟩
abbrev cX7_hasPair : ByteArray := prog_9_method_5_code
def yX7_hasPair : MethodName := ⟨RX7, "hasPair", "()Z"⟩
abbrev cX7_isThrough : ByteArray := prog_9_method_6_code
def yX7_isThrough : MethodName := ⟨RX7, "isThrough", "(LPullSaw$Yard;)Z"⟩
abbrev cX7_lean : ByteArray := prog_9_method_7_code
def yX7_lean : MethodName := ⟨RX7, "lean", "(LPullSaw$Yard;)I"⟩
abbrev cX7_changeSides : ByteArray := prog_9_method_8_code
def yX7_changeSides : MethodName := ⟨RX7, "changeSides", "()V"⟩
abbrev cX7_restFor : ByteArray := prog_9_method_9_code
def yX7_restFor : MethodName := ⟨RX7, "restFor", "(I)V"⟩
abbrev cX7_pullOnce : ByteArray := prog_9_method_10_code
def yX7_pullOnce : MethodName := ⟨RX7, "pullOnce", "(LPullSaw$Yard;)I"⟩
abbrev cX7_pullOf : ByteArray := prog_9_method_11_code
def yX7_pullOf : MethodName := ⟨RX7, "pullOf", "(LPullSaw$Yard;II)I"⟩
abbrev cX7_buckles : ByteArray := prog_9_method_12_code
def yX7_buckles : MethodName := ⟨RX7, "buckles", "(LPullSaw$Yard;I)Z"⟩
abbrev cX7_cutBy : ByteArray := prog_9_method_13_code
def yX7_cutBy : MethodName := ⟨RX7, "cutBy", "(LPullSaw$Yard;I)I"⟩
abbrev cX7_tire : ByteArray := prog_9_method_14_code
def yX7_tire : MethodName := ⟨RX7, "tire", "(II)V"⟩
abbrev cX7_feel : ByteArray := prog_9_method_15_code
def yX7_feel : MethodName := ⟨RX7, "feel", "(III)V"⟩
abbrev cX7_hasQuarrel : ByteArray := prog_9_method_16_code
def yX7_hasQuarrel : MethodName := ⟨RX7, "hasQuarrel", "()Z"⟩
def RX8 : String := "PullSaw$Yard"
def TX8 : u_T := fun k => match k with
  | 0 => ("PullSaw$Yard", "layers", "I", false)
  | 1 => ("PullSaw$Yard", "people", "I", false)
  | 2 => ("PullSaw$Yard", "teeth", "I", false)
  | 3 => ("PullSaw$Yard", "limit", "I", false)
  | 4 => ("PullSaw$Yard", "resin", "I", false)
  | 5 => ("PullSaw$Yard", "closes", "I", false)
  | 6 => ("PullSaw$Yard", "woods", "[I", true)
  | 7 => ("PullSaw$Yard", "forces", "[I", true)
  | 8 => ("PullSaw$Yard", "heights", "[I", true)
  | 9 => ("PullSaw$Yard", "tires", "[I", true)
  | 10 => ("PullSaw$Yard", "firstHabits", "[I", true)
  | _ => ("PullSaw$Yard", "bents", "[I", true)
def tyX8 : Nat → FieldType := fun k => match k with
  | 0 => .int
  | 1 => .int
  | 2 => .int
  | 3 => .int
  | 4 => .int
  | 5 => .int
  | 6 => .array .int
  | 7 => .array .int
  | 8 => .array .int
  | 9 => .array .int
  | 10 => .array .int
  | _ => .array .int
abbrev wsX80 : List Cond := u_ws RX8 TX8 12
theorem nmX8 : ∀ a, a < 12 → ∀ b, b < 12 → a ≠ b → (TX8 a).2.1 ≠ (TX8 b).2.1 := by decide +kernel
theorem tyX8_ok : ∀ k, k < 12 → parseFieldDescriptor (TX8 k).2.2.1 = some (tyX8 k) := by decide +kernel
abbrev cX8_init : ByteArray := prog_10_method_1_code
def yX8_init : MethodName := ⟨RX8, "<init>", "()V"⟩
abbrev cX8_clear : ByteArray := prog_10_method_2_code
def yX8_clear : MethodName := ⟨RX8, "clear", "()V"⟩
abbrev cX8_become : ByteArray := prog_10_method_3_code
def yX8_become : MethodName := ⟨RX8, "become", "(LPullSaw$Yard;)V"⟩
abbrev cX8_hasPerson : ByteArray := prog_10_method_4_code
def yX8_hasPerson : MethodName := ⟨RX8, "hasPerson", "(I)Z"⟩
abbrev cX8_hasTwo : ByteArray := prog_10_method_5_code
def yX8_hasTwo : MethodName := ⟨RX8, "hasTwo", "(II)Z"⟩
abbrev cX8_bottom : ByteArray := prog_10_method_6_code
def yX8_bottom : MethodName := ⟨RX8, "bottom", "()I"⟩
def RX9 : String := "PullSaw"
def TX9 : u_T := fun k => match k with
  | 0 => ("PullSaw", "yard", "LPullSaw$Yard;", true)
  | 1 => ("PullSaw", "reader", "LPullSaw$Reader;", true)
  | 2 => ("PullSaw", "now", "LPullSaw$Work;", true)
  | 3 => ("PullSaw", "past", "LPullSaw$Past;", true)
  | 4 => ("PullSaw", "trial", "LPullSaw$Trial;", true)
  | 5 => ("PullSaw", "balance", "LPullSaw$Balance;", true)
  | 6 => ("PullSaw", "seen", "LPullSaw$Sheet;", true)
  | 7 => ("PullSaw", "book", "LPullSaw$Sheet;", true)
  | 8 => ("PullSaw", "first", "LPullSaw$Image;", true)
  | 9 => ("PullSaw", "second", "LPullSaw$Image;", true)
  | _ => ("PullSaw", "seed", "I", false)
def tyX9 : Nat → FieldType := fun k => match k with
  | 0 => .object "PullSaw$Yard"
  | 1 => .object "PullSaw$Reader"
  | 2 => .object "PullSaw$Work"
  | 3 => .object "PullSaw$Past"
  | 4 => .object "PullSaw$Trial"
  | 5 => .object "PullSaw$Balance"
  | 6 => .object "PullSaw$Sheet"
  | 7 => .object "PullSaw$Sheet"
  | 8 => .object "PullSaw$Image"
  | 9 => .object "PullSaw$Image"
  | _ => .int
abbrev wsX90 : List Cond := u_ws RX9 TX9 11
theorem nmX9 : ∀ a, a < 11 → ∀ b, b < 11 → a ≠ b → (TX9 a).2.1 ≠ (TX9 b).2.1 := by decide +kernel
theorem tyX9_ok : ∀ k, k < 11 → parseFieldDescriptor (TX9 k).2.2.1 = some (tyX9 k) := by decide +kernel
abbrev cX9_init : ByteArray := prog_1_method_1_code
def yX9_init : MethodName := ⟨RX9, "<init>", "()V"⟩
abbrev cX9_feed : ByteArray := prog_1_method_2_code
def yX9_feed : MethodName := ⟨RX9, "feed", "(I)I"⟩
abbrev cX9_yard : ByteArray := prog_1_method_3_code
def yX9_yard : MethodName := ⟨RX9, "yard", "()I"⟩
abbrev cX9_fault : ByteArray := prog_1_method_4_code
def yX9_fault : MethodName := ⟨RX9, "fault", "()I"⟩
abbrev cX9_told : ByteArray := prog_1_method_5_code
def yX9_told : MethodName := ⟨RX9, "told", "(I)I"⟩
abbrev cX9_wood : ByteArray := prog_1_method_6_code
def yX9_wood : MethodName := ⟨RX9, "wood", "(I)I"⟩
abbrev cX9_person : ByteArray := prog_1_method_7_code
def yX9_person : MethodName := ⟨RX9, "person", "(II)I"⟩
abbrev cX9_log : ByteArray := prog_1_method_8_code
def yX9_log : MethodName := ⟨RX9, "log", "(II)I"⟩
abbrev cX9_stroke : ByteArray := prog_1_method_9_code
def yX9_stroke : MethodName := ⟨RX9, "stroke", "(I)I"⟩
abbrev cX9_rest : ByteArray := prog_1_method_10_code
def yX9_rest : MethodName := ⟨RX9, "rest", "(I)I"⟩
abbrev cX9_sides : ByteArray := prog_1_method_11_code
def yX9_sides : MethodName := ⟨RX9, "sides", "()I"⟩
abbrev cX9_oil : ByteArray := prog_1_method_12_code
def yX9_oil : MethodName := ⟨RX9, "oil", "()I"⟩
abbrev cX9_wedge : ByteArray := prog_1_method_13_code
def yX9_wedge : MethodName := ⟨RX9, "wedge", "()I"⟩
abbrev cX9_file : ByteArray := prog_1_method_14_code
def yX9_file : MethodName := ⟨RX9, "file", "()I"⟩
abbrev cX9_wish : ByteArray := prog_1_method_15_code
def yX9_wish : MethodName := ⟨RX9, "wish", "(II)I"⟩
abbrev cX9_habit : ByteArray := prog_1_method_16_code
def yX9_habit : MethodName := ⟨RX9, "habit", "(II)I"⟩
abbrev cX9_drift : ByteArray := prog_1_method_17_code
def yX9_drift : MethodName := ⟨RX9, "drift", "(I)I"⟩
abbrev cX9_undo : ByteArray := prog_1_method_18_code
def yX9_undo : MethodName := ⟨RX9, "undo", "(I)I"⟩
abbrev cX9_toGo : ByteArray := prog_1_method_19_code
def yX9_toGo : MethodName := ⟨RX9, "toGo", "()I"⟩
abbrev cX9_fresh : ByteArray := prog_1_method_20_code
def yX9_fresh : MethodName := ⟨RX9, "fresh", "(II)I"⟩
abbrev cX9_wishes : ByteArray := prog_1_method_21_code
def yX9_wishes : MethodName := ⟨RX9, "wishes", "(III)I"⟩
abbrev cX9_quarrel : ByteArray := prog_1_method_22_code
def yX9_quarrel : MethodName := ⟨RX9, "quarrel", "(II)I"⟩
abbrev cX9_withWhom : ByteArray := prog_1_method_23_code
def yX9_withWhom : MethodName := ⟨RX9, "withWhom", "(I)I"⟩
abbrev cX9_changes : ByteArray := prog_1_method_24_code
def yX9_changes : MethodName := ⟨RX9, "changes", "(III)I"⟩
abbrev cX9_whenWedge : ByteArray := prog_1_method_25_code
def yX9_whenWedge : MethodName := ⟨RX9, "whenWedge", "(I)I"⟩
abbrev cX9_whenRest : ByteArray := prog_1_method_26_code
def yX9_whenRest : MethodName := ⟨RX9, "whenRest", "(II)I"⟩
abbrev cX9_worthFile : ByteArray := prog_1_method_27_code
def yX9_worthFile : MethodName := ⟨RX9, "worthFile", "()I"⟩
abbrev cX9_see : ByteArray := prog_1_method_28_code
def yX9_see : MethodName := ⟨RX9, "see", "(I)I"⟩
abbrev cX9_habits : ByteArray := prog_1_method_29_code
def yX9_habits : MethodName := ⟨RX9, "habits", "(II)I"⟩
abbrev cX9_end : ByteArray := prog_1_method_30_code
def yX9_end : MethodName := ⟨RX9, "end", "(I)I"⟩
abbrev cX9_write : ByteArray := prog_1_method_31_code
def yX9_write : MethodName := ⟨RX9, "write", "(I)I"⟩
abbrev cX9_judge : ByteArray := prog_1_method_32_code
def yX9_judge : MethodName := ⟨RX9, "judge", "()I"⟩
abbrev cX9_tear : ByteArray := prog_1_method_33_code
def yX9_tear : MethodName := ⟨RX9, "tear", "()I"⟩
abbrev cX9_seed : ByteArray := prog_1_method_34_code
def yX9_seed : MethodName := ⟨RX9, "seed", "(I)I"⟩
abbrev cX9_keep : ByteArray := prog_1_method_35_code
def yX9_keep : MethodName := ⟨RX9, "keep", "(I)I"⟩
abbrev cX9_goBack : ByteArray := prog_1_method_36_code
def yX9_goBack : MethodName := ⟨RX9, "goBack", "(I)I"⟩
abbrev cX9_isWithin : ByteArray := prog_1_method_37_code
def yX9_isWithin : MethodName := ⟨RX9, "isWithin", "(III)Z"⟩
abbrev cX9_noneIfNever : ByteArray := prog_1_method_38_code
def yX9_noneIfNever : MethodName := ⟨RX9, "noneIfNever", "(I)I"⟩
abbrev cX9_refusalOfTwo : ByteArray := prog_1_method_39_code
def yX9_refusalOfTwo : MethodName := ⟨RX9, "refusalOfTwo", "(II)I"⟩
abbrev cX9_refusalOfSawing : ByteArray := prog_1_method_40_code
def yX9_refusalOfSawing : MethodName := ⟨RX9, "refusalOfSawing", "(I)I"⟩
abbrev cX9_changeRow : ByteArray := prog_1_method_41_code
def yX9_changeRow : MethodName := ⟨RX9, "changeRow", "([III)I"⟩
abbrev cX9_addCut : ByteArray := prog_1_method_42_code
def yX9_addCut : MethodName := ⟨RX9, "addCut", "(LPullSaw$Sheet;I)I"⟩
abbrev cX9_driftOnce : ByteArray := prog_1_method_43_code
def yX9_driftOnce : MethodName := ⟨RX9, "driftOnce", "()V"⟩
abbrev cX9_drawEighth : ByteArray := prog_1_method_44_code
def yX9_drawEighth : MethodName := ⟨RX9, "drawEighth", "()I"⟩
def RX10 : String := "PullSawModel"
def TX10 : u_T := fun k => match k with
  | 0 => ("PullSawModel", "w", "[I", true)
  | 1 => ("PullSawModel", "isKept", "[Z", true)
  | 2 => ("PullSawModel", "layers", "I", false)
  | 3 => ("PullSawModel", "people", "I", false)
  | 4 => ("PullSawModel", "limit", "I", false)
  | 5 => ("PullSawModel", "resin", "I", false)
  | 6 => ("PullSawModel", "closes", "I", false)
  | 7 => ("PullSawModel", "newLayers", "I", false)
  | 8 => ("PullSawModel", "newPeople", "I", false)
  | 9 => ("PullSawModel", "newTeeth", "I", false)
  | 10 => ("PullSawModel", "newLimit", "I", false)
  | 11 => ("PullSawModel", "newResin", "I", false)
  | 12 => ("PullSawModel", "newCloses", "I", false)
  | 13 => ("PullSawModel", "told", "I", false)
  | 14 => ("PullSawModel", "wood", "[I", true)
  | 15 => ("PullSawModel", "force", "[I", true)
  | 16 => ("PullSawModel", "height", "[I", true)
  | 17 => ("PullSawModel", "tires", "[I", true)
  | 18 => ("PullSawModel", "habit", "[I", true)
  | 19 => ("PullSawModel", "bent", "[I", true)
  | 20 => ("PullSawModel", "text", "[I", true)
  | 21 => ("PullSawModel", "textSize", "I", false)
  | 22 => ("PullSawModel", "at", "I", false)
  | 23 => ("PullSawModel", "first", "I", false)
  | 24 => ("PullSawModel", "faultOf", "I", false)
  | 25 => ("PullSawModel", "fault", "I", false)
  | 26 => ("PullSawModel", "undoMany", "I", false)
  | 27 => ("PullSawModel", "change", "[I", true)
  | 28 => ("PullSawModel", "changeThen", "[I", true)
  | 29 => ("PullSawModel", "late", "[I", true)
  | 30 => ("PullSawModel", "lateThen", "[I", true)
  | 31 => ("PullSawModel", "seen", "[I", true)
  | 32 => ("PullSawModel", "seenMany", "I", false)
  | 33 => ("PullSawModel", "book", "[I", true)
  | _ => ("PullSawModel", "written", "I", false)
def tyX10 : Nat → FieldType := fun k => match k with
  | 0 => .array .int
  | 1 => .array .boolean
  | 2 => .int
  | 3 => .int
  | 4 => .int
  | 5 => .int
  | 6 => .int
  | 7 => .int
  | 8 => .int
  | 9 => .int
  | 10 => .int
  | 11 => .int
  | 12 => .int
  | 13 => .int
  | 14 => .array .int
  | 15 => .array .int
  | 16 => .array .int
  | 17 => .array .int
  | 18 => .array .int
  | 19 => .array .int
  | 20 => .array .int
  | 21 => .int
  | 22 => .int
  | 23 => .int
  | 24 => .int
  | 25 => .int
  | 26 => .int
  | 27 => .array .int
  | 28 => .array .int
  | 29 => .array .int
  | 30 => .array .int
  | 31 => .array .int
  | 32 => .int
  | 33 => .array .int
  | _ => .int
abbrev wsX100 : List Cond := u_ws RX10 TX10 35
theorem nmX10 : ∀ a, a < 35 → ∀ b, b < 35 → a ≠ b → (TX10 a).2.1 ≠ (TX10 b).2.1 := by decide +kernel
theorem tyX10_ok : ∀ k, k < 35 → parseFieldDescriptor (TX10 k).2.2.1 = some (tyX10 k) := by decide +kernel
abbrev cX10_init : ByteArray := prog_12_method_1_code
def yX10_init : MethodName := ⟨RX10, "<init>", "()V"⟩
abbrev cX10_in : ByteArray := prog_12_method_3_code
def yX10_in : MethodName := ⟨RX10, "in", "(JJJ)Z"⟩
abbrev cX10_one : ByteArray := prog_12_method_4_code
def yX10_one : MethodName := ⟨RX10, "one", "(Z)I"⟩
abbrev cX10_has : ByteArray := prog_12_method_5_code
def yX10_has : MethodName := ⟨RX10, "has", "(II)Z"⟩
abbrev cX10_feed : ByteArray := prog_12_method_6_code
def yX10_feed : MethodName := ⟨RX10, "feed", "(I)I"⟩
abbrev cX10_here : ByteArray := prog_12_method_7_code
def yX10_here : MethodName := ⟨RX10, "here", "()I"⟩
abbrev cX10_want : ByteArray := prog_12_method_8_code
def yX10_want : MethodName := ⟨RX10, "want", "(ZII)Z"⟩
abbrev cX10_takeNumber : ByteArray := prog_12_method_9_code
def yX10_takeNumber : MethodName := ⟨RX10, "takeNumber", "(II)I"⟩
abbrev cX10_takeLog : ByteArray := prog_12_method_10_code
def yX10_takeLog : MethodName := ⟨RX10, "takeLog", "()V"⟩
abbrev cX10_takePerson : ByteArray := prog_12_method_11_code
def yX10_takePerson : MethodName := ⟨RX10, "takePerson", "()V"⟩
abbrev cX10_wordOf : ByteArray := prog_12_method_12_code
def yX10_wordOf : MethodName := ⟨RX10, "wordOf", "(I)I"⟩
abbrev cX10_takeClause : ByteArray := prog_12_method_13_code
def yX10_takeClause : MethodName := ⟨RX10, "takeClause", "()V"⟩
abbrev cX10_yard : ByteArray := prog_12_method_14_code
def yX10_yard : MethodName := ⟨RX10, "yard", "()I"⟩
abbrev cX10_take : ByteArray := prog_12_method_15_code
def yX10_take : MethodName := ⟨RX10, "take", "()V"⟩
abbrev cX10_begin : ByteArray := prog_12_method_16_code
def yX10_begin : MethodName := ⟨RX10, "begin", "(III)V"⟩
abbrev cX10_fault : ByteArray := prog_12_method_17_code
def yX10_fault : MethodName := ⟨RX10, "fault", "()I"⟩
abbrev cX10_isPerson : ByteArray := prog_12_method_18_code
def yX10_isPerson : MethodName := ⟨RX10, "isPerson", "(I)Z"⟩
abbrev cX10_isThrough : ByteArray := prog_12_method_19_code
def yX10_isThrough : MethodName := ⟨RX10, "isThrough", "(I)Z"⟩
abbrev cX10_isPair : ByteArray := prog_12_method_20_code
def yX10_isPair : MethodName := ⟨RX10, "isPair", "()Z"⟩
abbrev cX10_told : ByteArray := prog_12_method_21_code
def yX10_told : MethodName := ⟨RX10, "told", "(I)I"⟩
abbrev cX10_wood : ByteArray := prog_12_method_22_code
def yX10_wood : MethodName := ⟨RX10, "wood", "(I)I"⟩
abbrev cX10_person : ByteArray := prog_12_method_23_code
def yX10_person : MethodName := ⟨RX10, "person", "(II)I"⟩
abbrev cX10_tire : ByteArray := prog_12_method_24_code
def yX10_tire : MethodName := ⟨RX10, "tire", "(II)V"⟩
abbrev cX10_pullOf : ByteArray := prog_12_method_25_code
def yX10_pullOf : MethodName := ⟨RX10, "pullOf", "(III)I"⟩
abbrev cX10_feel : ByteArray := prog_12_method_26_code
def yX10_feel : MethodName := ⟨RX10, "feel", "(III)V"⟩
abbrev cX10_pull : ByteArray := prog_12_method_27_code
def yX10_pull : MethodName := ⟨RX10, "pull", "(I)I"⟩
abbrev cX10_relax : ByteArray := prog_12_method_28_code
def yX10_relax : MethodName := ⟨RX10, "relax", "(II)V"⟩
abbrev cX10_copy : ByteArray := prog_12_method_29_code
def yX10_copy : MethodName := ⟨RX10, "copy", "(II)V"⟩
abbrev cX10_remember : ByteArray := prog_12_method_30_code
def yX10_remember : MethodName := ⟨RX10, "remember", "()V"⟩
abbrev cX10_log : ByteArray := prog_12_method_31_code
def yX10_log : MethodName := ⟨RX10, "log", "(II)I"⟩
abbrev cX10_stroke : ByteArray := prog_12_method_32_code
def yX10_stroke : MethodName := ⟨RX10, "stroke", "(I)I"⟩
abbrev cX10_rest : ByteArray := prog_12_method_33_code
def yX10_rest : MethodName := ⟨RX10, "rest", "(I)I"⟩
abbrev cX10_sides : ByteArray := prog_12_method_34_code
def yX10_sides : MethodName := ⟨RX10, "sides", "()I"⟩
abbrev cX10_oil : ByteArray := prog_12_method_35_code
def yX10_oil : MethodName := ⟨RX10, "oil", "()I"⟩
abbrev cX10_wedge : ByteArray := prog_12_method_36_code
def yX10_wedge : MethodName := ⟨RX10, "wedge", "()I"⟩
abbrev cX10_file : ByteArray := prog_12_method_37_code
def yX10_file : MethodName := ⟨RX10, "file", "()I"⟩
abbrev cX10_become : ByteArray := prog_12_method_38_code
def yX10_become : MethodName := ⟨RX10, "become", "(II)I"⟩
abbrev cX10_wish : ByteArray := prog_12_method_39_code
def yX10_wish : MethodName := ⟨RX10, "wish", "(II)I"⟩
abbrev cX10_habit : ByteArray := prog_12_method_40_code
def yX10_habit : MethodName := ⟨RX10, "habit", "(II)I"⟩
abbrev cX10_draw : ByteArray := prog_12_method_41_code
def yX10_draw : MethodName := ⟨RX10, "draw", "(I)I"⟩
abbrev cX10_drift : ByteArray := prog_12_method_42_code
def yX10_drift : MethodName := ⟨RX10, "drift", "(I)I"⟩
abbrev cX10_undo : ByteArray := prog_12_method_43_code
def yX10_undo : MethodName := ⟨RX10, "undo", "(I)I"⟩
abbrev cX10_goOn : ByteArray := prog_12_method_44_code
def yX10_goOn : MethodName := ⟨RX10, "goOn", "(I)I"⟩
abbrev cX10_goOnNow : ByteArray := prog_12_method_45_code
def yX10_goOnNow : MethodName := ⟨RX10, "goOnNow", "()I"⟩
abbrev cX10_toGo : ByteArray := prog_12_method_46_code
def yX10_toGo : MethodName := ⟨RX10, "toGo", "()I"⟩
abbrev cX10_beginFresh : ByteArray := prog_12_method_47_code
def yX10_beginFresh : MethodName := ⟨RX10, "beginFresh", "(II)V"⟩
abbrev cX10_freshOf : ByteArray := prog_12_method_48_code
def yX10_freshOf : MethodName := ⟨RX10, "freshOf", "(II)I"⟩
abbrev cX10_refusedTwo : ByteArray := prog_12_method_49_code
def yX10_refusedTwo : MethodName := ⟨RX10, "refusedTwo", "(II)I"⟩
abbrev cX10_fresh : ByteArray := prog_12_method_50_code
def yX10_fresh : MethodName := ⟨RX10, "fresh", "(II)I"⟩
abbrev cX10_wishes : ByteArray := prog_12_method_51_code
def yX10_wishes : MethodName := ⟨RX10, "wishes", "(III)I"⟩
abbrev cX10_quarrels : ByteArray := prog_12_method_52_code
def yX10_quarrels : MethodName := ⟨RX10, "quarrels", "(I)Z"⟩
abbrev cX10_quarrel : ByteArray := prog_12_method_53_code
def yX10_quarrel : MethodName := ⟨RX10, "quarrel", "(II)I"⟩
abbrev cX10_withWhom : ByteArray := prog_12_method_54_code
def yX10_withWhom : MethodName := ⟨RX10, "withWhom", "(I)I"⟩
abbrev cX10_lay : ByteArray := prog_12_method_55_code
def yX10_lay : MethodName := ⟨RX10, "lay", "(III)V"⟩
abbrev cX10_changes : ByteArray := prog_12_method_56_code
def yX10_changes : MethodName := ⟨RX10, "changes", "(III)I"⟩
abbrev cX10_whenWedge : ByteArray := prog_12_method_57_code
def yX10_whenWedge : MethodName := ⟨RX10, "whenWedge", "(I)I"⟩
abbrev cX10_depthBy : ByteArray := prog_12_method_58_code
def yX10_depthBy : MethodName := ⟨RX10, "depthBy", "(II)I"⟩
abbrev cX10_ones : ByteArray := prog_12_method_59_code
def yX10_ones : MethodName := ⟨RX10, "ones", "(I)I"⟩
abbrev cX10_whenRest : ByteArray := prog_12_method_60_code
def yX10_whenRest : MethodName := ⟨RX10, "whenRest", "(II)I"⟩
abbrev cX10_worthFile : ByteArray := prog_12_method_61_code
def yX10_worthFile : MethodName := ⟨RX10, "worthFile", "()I"⟩
abbrev cX10_see : ByteArray := prog_12_method_62_code
def yX10_see : MethodName := ⟨RX10, "see", "(I)I"⟩
abbrev cX10_isAsSeen : ByteArray := prog_12_method_63_code
def yX10_isAsSeen : MethodName := ⟨RX10, "isAsSeen", "()Z"⟩
abbrev cX10_habits : ByteArray := prog_12_method_64_code
def yX10_habits : MethodName := ⟨RX10, "habits", "(II)I"⟩
abbrev cX10_end : ByteArray := prog_12_method_65_code
def yX10_end : MethodName := ⟨RX10, "end", "(I)I"⟩
abbrev cX10_write : ByteArray := prog_12_method_66_code
def yX10_write : MethodName := ⟨RX10, "write", "(I)I"⟩
abbrev cX10_judge : ByteArray := prog_12_method_67_code
def yX10_judge : MethodName := ⟨RX10, "judge", "()I"⟩
abbrev cX10_tear : ByteArray := prog_12_method_68_code
def yX10_tear : MethodName := ⟨RX10, "tear", "()I"⟩
abbrev cX10_seed : ByteArray := prog_12_method_69_code
def yX10_seed : MethodName := ⟨RX10, "seed", "(I)I"⟩
abbrev cX10_keep : ByteArray := prog_12_method_70_code
def yX10_keep : MethodName := ⟨RX10, "keep", "(I)I"⟩
abbrev cX10_goBack : ByteArray := prog_12_method_71_code
def yX10_goBack : MethodName := ⟨RX10, "goBack", "(I)I"⟩
def RJ6 : String := "java/lang/Integer"
abbrev cJ6_bitCount_0f7a4 : ByteArray := prog_13_method_49_code
def yJ6_bitCount_0f7a4 : MethodName := ⟨RJ6, "bitCount", "(I)I"⟩
def RJ9 : String := "java/lang/Math"
abbrev cJ9_abs_0f7a4 : ByteArray := prog_14_method_59_code
def yJ9_abs_0f7a4 : MethodName := ⟨RJ9, "abs", "(I)I"⟩
abbrev cJ9_max_7cf53 : ByteArray := prog_14_method_65_code
def yJ9_max_7cf53 : MethodName := ⟨RJ9, "max", "(II)I"⟩
abbrev cJ9_min_7cf53 : ByteArray := prog_14_method_69_code
def yJ9_min_7cf53 : MethodName := ⟨RJ9, "min", "(II)I"⟩
def RL : String := "PullSawLaw"
abbrev cL_law : ByteArray := code
def yL_law : MethodName := ⟨RL, "law", "([I)Z"⟩
abbrev vwCl : List vw_C := [(RX0, TX0, 7), (RX1, TX1, 3), (RX2, TX2, 3), (RX3, TX3, 7), (RX5, TX5, 2), (RX6, TX6, 10), (RX7, TX7, 13), (RX8, TX8, 12), (RX9, TX9, 11), (RX10, TX10, 35)]
end
section
theorem dX0_init_0 : decode cX0_init 0 = .ok (.aload_n 0, 1) := by decide +kernel
theorem dX0_init_1 : decode cX0_init 1 = .ok (.invokespecial 3, 3) := by decide +kernel
theorem dX0_init_4 : decode cX0_init 4 = .ok (.aload_n 0, 1) := by decide +kernel
theorem dX0_init_5 : decode cX0_init 5 = .ok (.bipush 122, 2) := by decide +kernel
theorem dX0_init_7 : decode cX0_init 7 = .ok (.newarray .int, 2) := by decide +kernel
theorem dX0_init_9 : decode cX0_init 9 = .ok (.putfield 11, 3) := by decide +kernel
theorem dX0_init_12 : decode cX0_init 12 = .ok (.aload_n 0, 1) := by decide +kernel
theorem dX0_init_13 : decode cX0_init 13 = .ok (.bipush 122, 2) := by decide +kernel
theorem dX0_init_15 : decode cX0_init 15 = .ok (.newarray .int, 2) := by decide +kernel
theorem dX0_init_17 : decode cX0_init 17 = .ok (.putfield 15, 3) := by decide +kernel
theorem dX0_init_20 : decode cX0_init 20 = .ok (.return_, 1) := by decide +kernel
theorem dX0_weigh_0 : decode cX0_weigh 0 = .ok (.aload_n 0, 1) := by decide +kernel
theorem dX0_weigh_1 : decode cX0_weigh 1 = .ok (.iload_n 1, 1) := by decide +kernel
theorem dX0_weigh_2 : decode cX0_weigh 2 = .ok (.putfield 18, 3) := by decide +kernel
theorem dX0_weigh_5 : decode cX0_weigh 5 = .ok (.aload_n 0, 1) := by decide +kernel
theorem dX0_weigh_6 : decode cX0_weigh 6 = .ok (.iload_n 2, 1) := by decide +kernel
theorem dX0_weigh_7 : decode cX0_weigh 7 = .ok (.putfield 22, 3) := by decide +kernel
theorem dX0_weigh_10 : decode cX0_weigh 10 = .ok (.aload_n 0, 1) := by decide +kernel
theorem dX0_weigh_11 : decode cX0_weigh 11 = .ok (.iload 4, 2) := by decide +kernel
theorem dX0_weigh_13 : decode cX0_weigh 13 = .ok (.putfield 25, 3) := by decide +kernel
theorem dX0_weigh_16 : decode cX0_weigh 16 = .ok (.aload_n 0, 1) := by decide +kernel
theorem dX0_weigh_17 : decode cX0_weigh 17 = .ok (.iconst (-1), 1) := by decide +kernel
theorem dX0_weigh_18 : decode cX0_weigh 18 = .ok (.putfield 28, 3) := by decide +kernel
theorem dX0_weigh_21 : decode cX0_weigh 21 = .ok (.aload_n 0, 1) := by decide +kernel
theorem dX0_weigh_22 : decode cX0_weigh 22 = .ok (.getfield 11, 3) := by decide +kernel
theorem dX0_weigh_25 : decode cX0_weigh 25 = .ok (.iconst 0, 1) := by decide +kernel
theorem dX0_weigh_26 : decode cX0_weigh 26 = .ok (.invokestatic 31, 3) := by decide +kernel
theorem dX0_weigh_29 : decode cX0_weigh 29 = .ok (.iload_n 3, 1) := by decide +kernel
theorem dX0_weigh_30 : decode cX0_weigh 30 = .ok (.bipush 30, 2) := by decide +kernel
theorem dX0_weigh_32 : decode cX0_weigh 32 = .ok (.invokestatic 37, 3) := by decide +kernel
theorem dX0_weigh_35 : decode cX0_weigh 35 = .ok (.iconst 1, 1) := by decide +kernel
theorem dX0_weigh_36 : decode cX0_weigh 36 = .ok (.isub, 1) := by decide +kernel
theorem dX0_weigh_37 : decode cX0_weigh 37 = .ok (.istore 5, 2) := by decide +kernel
theorem dX0_weigh_39 : decode cX0_weigh 39 = .ok (.iload 5, 2) := by decide +kernel
theorem dX0_weigh_41 : decode cX0_weigh 41 = .ok (.ifCond .lt 68, 3) := by decide +kernel
theorem dX0_weigh_44 : decode cX0_weigh 44 = .ok (.aload_n 0, 1) := by decide +kernel
theorem dX0_weigh_45 : decode cX0_weigh 45 = .ok (.invokevirtual 43, 3) := by decide +kernel
theorem dX0_weigh_48 : decode cX0_weigh 48 = .ok (.iload 5, 2) := by decide +kernel
theorem dX0_weigh_50 : decode cX0_weigh 50 = .ok (.ineg, 1) := by decide +kernel
theorem dX0_weigh_51 : decode cX0_weigh 51 = .ok (.istore 6, 2) := by decide +kernel
theorem dX0_weigh_53 : decode cX0_weigh 53 = .ok (.iload 6, 2) := by decide +kernel
theorem dX0_weigh_55 : decode cX0_weigh 55 = .ok (.iload 5, 2) := by decide +kernel
theorem dX0_weigh_57 : decode cX0_weigh 57 = .ok (.if_icmp .gt 23, 3) := by decide +kernel
theorem dX0_weigh_60 : decode cX0_weigh 60 = .ok (.aload_n 0, 1) := by decide +kernel
theorem dX0_weigh_61 : decode cX0_weigh 61 = .ok (.iload 6, 2) := by decide +kernel
theorem dX0_weigh_63 : decode cX0_weigh 63 = .ok (.iconst 1, 1) := by decide +kernel
theorem dX0_weigh_64 : decode cX0_weigh 64 = .ok (.invokevirtual 46, 3) := by decide +kernel
theorem dX0_weigh_67 : decode cX0_weigh 67 = .ok (.aload_n 0, 1) := by decide +kernel
theorem dX0_weigh_68 : decode cX0_weigh 68 = .ok (.iload 6, 2) := by decide +kernel
theorem dX0_weigh_70 : decode cX0_weigh 70 = .ok (.iconst (-1), 1) := by decide +kernel
theorem dX0_weigh_71 : decode cX0_weigh 71 = .ok (.invokevirtual 46, 3) := by decide +kernel
theorem dX0_weigh_74 : decode cX0_weigh 74 = .ok (.iinc 6 1, 3) := by decide +kernel
theorem dX0_weigh_77 : decode cX0_weigh 77 = .ok (.goto (-24), 3) := by decide +kernel
theorem dX0_weigh_80 : decode cX0_weigh 80 = .ok (.aload_n 0, 1) := by decide +kernel
theorem dX0_weigh_81 : decode cX0_weigh 81 = .ok (.iload 5, 2) := by decide +kernel
theorem dX0_weigh_83 : decode cX0_weigh 83 = .ok (.iconst 1, 1) := by decide +kernel
theorem dX0_weigh_84 : decode cX0_weigh 84 = .ok (.invokevirtual 50, 3) := by decide +kernel
theorem dX0_weigh_87 : decode cX0_weigh 87 = .ok (.aload_n 0, 1) := by decide +kernel
theorem dX0_weigh_88 : decode cX0_weigh 88 = .ok (.iload 5, 2) := by decide +kernel
theorem dX0_weigh_90 : decode cX0_weigh 90 = .ok (.iconst 1, 1) := by decide +kernel
theorem dX0_weigh_91 : decode cX0_weigh 91 = .ok (.invokevirtual 53, 3) := by decide +kernel
theorem dX0_weigh_94 : decode cX0_weigh 94 = .ok (.if_icmp .ge 9, 3) := by decide +kernel
theorem dX0_weigh_97 : decode cX0_weigh 97 = .ok (.aload_n 0, 1) := by decide +kernel
theorem dX0_weigh_98 : decode cX0_weigh 98 = .ok (.iload 5, 2) := by decide +kernel
theorem dX0_weigh_100 : decode cX0_weigh 100 = .ok (.putfield 28, 3) := by decide +kernel
theorem dX0_weigh_103 : decode cX0_weigh 103 = .ok (.iinc 5 (-1), 3) := by decide +kernel
theorem dX0_weigh_106 : decode cX0_weigh 106 = .ok (.goto (-67), 3) := by decide +kernel
theorem dX0_weigh_109 : decode cX0_weigh 109 = .ok (.aload_n 0, 1) := by decide +kernel
theorem dX0_weigh_110 : decode cX0_weigh 110 = .ok (.aload_n 0, 1) := by decide +kernel
theorem dX0_weigh_111 : decode cX0_weigh 111 = .ok (.getfield 11, 3) := by decide +kernel
theorem dX0_weigh_114 : decode cX0_weigh 114 = .ok (.iconst 0, 1) := by decide +kernel
theorem dX0_weigh_115 : decode cX0_weigh 115 = .ok (.iconst 1, 1) := by decide +kernel
theorem dX0_weigh_116 : decode cX0_weigh 116 = .ok (.invokestatic 56, 3) := by decide +kernel
theorem dX0_weigh_119 : decode cX0_weigh 119 = .ok (.invokestatic 59, 3) := by decide +kernel
theorem dX0_weigh_122 : decode cX0_weigh 122 = .ok (.putfield 63, 3) := by decide +kernel
theorem dX0_weigh_125 : decode cX0_weigh 125 = .ok (.aload_n 0, 1) := by decide +kernel
theorem dX0_weigh_126 : decode cX0_weigh 126 = .ok (.getfield 63, 3) := by decide +kernel
theorem dX0_weigh_129 : decode cX0_weigh 129 = .ok (.sipush 1000, 3) := by decide +kernel
theorem dX0_weigh_132 : decode cX0_weigh 132 = .ok (.if_icmp .lt 13, 3) := by decide +kernel
theorem dX0_weigh_135 : decode cX0_weigh 135 = .ok (.aload_n 0, 1) := by decide +kernel
theorem dX0_weigh_136 : decode cX0_weigh 136 = .ok (.iconst (-1), 1) := by decide +kernel
theorem dX0_weigh_137 : decode cX0_weigh 137 = .ok (.putfield 63, 3) := by decide +kernel
theorem dX0_weigh_140 : decode cX0_weigh 140 = .ok (.aload_n 0, 1) := by decide +kernel
theorem dX0_weigh_141 : decode cX0_weigh 141 = .ok (.iconst (-1), 1) := by decide +kernel
theorem dX0_weigh_142 : decode cX0_weigh 142 = .ok (.putfield 28, 3) := by decide +kernel
theorem dX0_weigh_145 : decode cX0_weigh 145 = .ok (.return_, 1) := by decide +kernel
theorem dX0_stepBack_0 : decode cX0_stepBack 0 = .ok (.aload_n 0, 1) := by decide +kernel
theorem dX0_stepBack_1 : decode cX0_stepBack 1 = .ok (.getfield 15, 3) := by decide +kernel
theorem dX0_stepBack_4 : decode cX0_stepBack 4 = .ok (.astore_n 1, 1) := by decide +kernel
theorem dX0_stepBack_5 : decode cX0_stepBack 5 = .ok (.aload_n 0, 1) := by decide +kernel
theorem dX0_stepBack_6 : decode cX0_stepBack 6 = .ok (.aload_n 0, 1) := by decide +kernel
theorem dX0_stepBack_7 : decode cX0_stepBack 7 = .ok (.getfield 11, 3) := by decide +kernel
theorem dX0_stepBack_10 : decode cX0_stepBack 10 = .ok (.putfield 15, 3) := by decide +kernel
theorem dX0_stepBack_13 : decode cX0_stepBack 13 = .ok (.aload_n 0, 1) := by decide +kernel
theorem dX0_stepBack_14 : decode cX0_stepBack 14 = .ok (.aload_n 1, 1) := by decide +kernel
theorem dX0_stepBack_15 : decode cX0_stepBack 15 = .ok (.putfield 11, 3) := by decide +kernel
theorem dX0_stepBack_18 : decode cX0_stepBack 18 = .ok (.return_, 1) := by decide +kernel
theorem dX0_weighAhead_0 : decode cX0_weighAhead 0 = .ok (.aload_n 0, 1) := by decide +kernel
theorem dX0_weighAhead_1 : decode cX0_weighAhead 1 = .ok (.iload_n 1, 1) := by decide +kernel
theorem dX0_weighAhead_2 : decode cX0_weighAhead 2 = .ok (.iload_n 2, 1) := by decide +kernel
theorem dX0_weighAhead_3 : decode cX0_weighAhead 3 = .ok (.invokevirtual 53, 3) := by decide +kernel
theorem dX0_weighAhead_6 : decode cX0_weighAhead 6 = .ok (.aload_n 0, 1) := by decide +kernel
theorem dX0_weighAhead_7 : decode cX0_weighAhead 7 = .ok (.iload_n 1, 1) := by decide +kernel
theorem dX0_weighAhead_8 : decode cX0_weighAhead 8 = .ok (.iload_n 2, 1) := by decide +kernel
theorem dX0_weighAhead_9 : decode cX0_weighAhead 9 = .ok (.invokevirtual 50, 3) := by decide +kernel
theorem dX0_weighAhead_12 : decode cX0_weighAhead 12 = .ok (.invokestatic 37, 3) := by decide +kernel
theorem dX0_weighAhead_15 : decode cX0_weighAhead 15 = .ok (.istore_n 3, 1) := by decide +kernel
theorem dX0_weighAhead_16 : decode cX0_weighAhead 16 = .ok (.aload_n 0, 1) := by decide +kernel
theorem dX0_weighAhead_17 : decode cX0_weighAhead 17 = .ok (.getfield 11, 3) := by decide +kernel
theorem dX0_weighAhead_20 : decode cX0_weighAhead 20 = .ok (.iload_n 1, 1) := by decide +kernel
theorem dX0_weighAhead_21 : decode cX0_weighAhead 21 = .ok (.iload_n 2, 1) := by decide +kernel
theorem dX0_weighAhead_22 : decode cX0_weighAhead 22 = .ok (.invokestatic 56, 3) := by decide +kernel
theorem dX0_weighAhead_25 : decode cX0_weighAhead 25 = .ok (.sipush 1000, 3) := by decide +kernel
theorem dX0_weighAhead_28 : decode cX0_weighAhead 28 = .ok (.iload_n 3, 1) := by decide +kernel
theorem dX0_weighAhead_29 : decode cX0_weighAhead 29 = .ok (.invokestatic 37, 3) := by decide +kernel
theorem dX0_weighAhead_32 : decode cX0_weighAhead 32 = .ok (.invokestatic 66, 3) := by decide +kernel
theorem dX0_weighAhead_35 : decode cX0_weighAhead 35 = .ok (.return_, 1) := by decide +kernel
theorem dX0_costOfStay_0 : decode cX0_costOfStay 0 = .ok (.aload_n 0, 1) := by decide +kernel
theorem dX0_costOfStay_1 : decode cX0_costOfStay 1 = .ok (.iload_n 1, 1) := by decide +kernel
theorem dX0_costOfStay_2 : decode cX0_costOfStay 2 = .ok (.iload_n 2, 1) := by decide +kernel
theorem dX0_costOfStay_3 : decode cX0_costOfStay 3 = .ok (.iadd, 1) := by decide +kernel
theorem dX0_costOfStay_4 : decode cX0_costOfStay 4 = .ok (.iload_n 2, 1) := by decide +kernel
theorem dX0_costOfStay_5 : decode cX0_costOfStay 5 = .ok (.invokevirtual 70, 3) := by decide +kernel
theorem dX0_costOfStay_8 : decode cX0_costOfStay 8 = .ok (.ireturn, 1) := by decide +kernel
theorem dX0_costOfChange_0 : decode cX0_costOfChange 0 = .ok (.aload_n 0, 1) := by decide +kernel
theorem dX0_costOfChange_1 : decode cX0_costOfChange 1 = .ok (.iload_n 1, 1) := by decide +kernel
theorem dX0_costOfChange_2 : decode cX0_costOfChange 2 = .ok (.iload_n 2, 1) := by decide +kernel
theorem dX0_costOfChange_3 : decode cX0_costOfChange 3 = .ok (.isub, 1) := by decide +kernel
theorem dX0_costOfChange_4 : decode cX0_costOfChange 4 = .ok (.iload_n 2, 1) := by decide +kernel
theorem dX0_costOfChange_5 : decode cX0_costOfChange 5 = .ok (.ineg, 1) := by decide +kernel
theorem dX0_costOfChange_6 : decode cX0_costOfChange 6 = .ok (.invokevirtual 70, 3) := by decide +kernel
theorem dX0_costOfChange_9 : decode cX0_costOfChange 9 = .ok (.iconst 1, 1) := by decide +kernel
theorem dX0_costOfChange_10 : decode cX0_costOfChange 10 = .ok (.iadd, 1) := by decide +kernel
theorem dX0_costOfChange_11 : decode cX0_costOfChange 11 = .ok (.ireturn, 1) := by decide +kernel
theorem dX0_costBehind_0 : decode cX0_costBehind 0 = .ok (.aload_n 0, 1) := by decide +kernel
theorem dX0_costBehind_1 : decode cX0_costBehind 1 = .ok (.getfield 18, 3) := by decide +kernel
theorem dX0_costBehind_4 : decode cX0_costBehind 4 = .ok (.iload_n 1, 1) := by decide +kernel
theorem dX0_costBehind_5 : decode cX0_costBehind 5 = .ok (.aload_n 0, 1) := by decide +kernel
theorem dX0_costBehind_6 : decode cX0_costBehind 6 = .ok (.getfield 22, 3) := by decide +kernel
theorem dX0_costBehind_9 : decode cX0_costBehind 9 = .ok (.imul, 1) := by decide +kernel
theorem dX0_costBehind_10 : decode cX0_costBehind 10 = .ok (.iadd, 1) := by decide +kernel
theorem dX0_costBehind_11 : decode cX0_costBehind 11 = .ok (.invokestatic 73, 3) := by decide +kernel
theorem dX0_costBehind_14 : decode cX0_costBehind 14 = .ok (.aload_n 0, 1) := by decide +kernel
theorem dX0_costBehind_15 : decode cX0_costBehind 15 = .ok (.getfield 25, 3) := by decide +kernel
theorem dX0_costBehind_18 : decode cX0_costBehind 18 = .ok (.if_icmp .le 9, 3) := by decide +kernel
theorem dX0_costBehind_21 : decode cX0_costBehind 21 = .ok (.sipush 1000, 3) := by decide +kernel
theorem dX0_costBehind_24 : decode cX0_costBehind 24 = .ok (.goto 15, 3) := by decide +kernel
theorem dX0_costBehind_27 : decode cX0_costBehind 27 = .ok (.aload_n 0, 1) := by decide +kernel
theorem dX0_costBehind_28 : decode cX0_costBehind 28 = .ok (.getfield 15, 3) := by decide +kernel
theorem dX0_costBehind_31 : decode cX0_costBehind 31 = .ok (.iload_n 1, 1) := by decide +kernel
theorem dX0_costBehind_32 : decode cX0_costBehind 32 = .ok (.iload_n 2, 1) := by decide +kernel
theorem dX0_costBehind_33 : decode cX0_costBehind 33 = .ok (.invokestatic 56, 3) := by decide +kernel
theorem dX0_costBehind_36 : decode cX0_costBehind 36 = .ok (.invokestatic 59, 3) := by decide +kernel
theorem dX0_costBehind_39 : decode cX0_costBehind 39 = .ok (.ireturn, 1) := by decide +kernel
theorem dX0_place_0 : decode cX0_place 0 = .ok (.bipush 30, 2) := by decide +kernel
theorem dX0_place_2 : decode cX0_place 2 = .ok (.iload_n 0, 1) := by decide +kernel
theorem dX0_place_3 : decode cX0_place 3 = .ok (.iadd, 1) := by decide +kernel
theorem dX0_place_4 : decode cX0_place 4 = .ok (.iload_n 1, 1) := by decide +kernel
theorem dX0_place_5 : decode cX0_place 5 = .ok (.ifCond .ge 8, 3) := by decide +kernel
theorem dX0_place_8 : decode cX0_place 8 = .ok (.bipush 61, 2) := by decide +kernel
theorem dX0_place_10 : decode cX0_place 10 = .ok (.goto 4, 3) := by decide +kernel
theorem dX0_place_13 : decode cX0_place 13 = .ok (.iconst 0, 1) := by decide +kernel
theorem dX0_place_14 : decode cX0_place 14 = .ok (.iadd, 1) := by decide +kernel
theorem dX0_place_15 : decode cX0_place 15 = .ok (.ireturn, 1) := by decide +kernel
theorem dX1_init_0 : decode cX1_init 0 = .ok (.aload_n 0, 1) := by decide +kernel
theorem dX1_init_1 : decode cX1_init 1 = .ok (.invokespecial 1, 3) := by decide +kernel
theorem dX1_init_4 : decode cX1_init 4 = .ok (.aload_n 0, 1) := by decide +kernel
theorem dX1_init_5 : decode cX1_init 5 = .ok (.new 7, 3) := by decide +kernel
theorem dX1_init_8 : decode cX1_init 8 = .ok (.dup, 1) := by decide +kernel
theorem dX1_init_9 : decode cX1_init 9 = .ok (.invokespecial 9, 3) := by decide +kernel
theorem dX1_init_12 : decode cX1_init 12 = .ok (.putfield 10, 3) := by decide +kernel
theorem dX1_init_15 : decode cX1_init 15 = .ok (.return_, 1) := by decide +kernel
theorem dX2_init_0 : decode cX2_init 0 = .ok (.aload_n 0, 1) := by decide +kernel
theorem dX2_init_1 : decode cX2_init 1 = .ok (.invokespecial 3, 3) := by decide +kernel
theorem dX2_init_4 : decode cX2_init 4 = .ok (.aload_n 0, 1) := by decide +kernel
theorem dX2_init_5 : decode cX2_init 5 = .ok (.bipush 30, 2) := by decide +kernel
theorem dX2_init_7 : decode cX2_init 7 = .ok (.anewarray 9, 3) := by decide +kernel
theorem dX2_init_10 : decode cX2_init 10 = .ok (.putfield 11, 3) := by decide +kernel
theorem dX2_init_13 : decode cX2_init 13 = .ok (.iconst 0, 1) := by decide +kernel
theorem dX2_init_14 : decode cX2_init 14 = .ok (.istore_n 1, 1) := by decide +kernel
theorem dX2_init_15 : decode cX2_init 15 = .ok (.iload_n 1, 1) := by decide +kernel
theorem dX2_init_16 : decode cX2_init 16 = .ok (.aload_n 0, 1) := by decide +kernel
theorem dX2_init_17 : decode cX2_init 17 = .ok (.getfield 11, 3) := by decide +kernel
theorem dX2_init_20 : decode cX2_init 20 = .ok (.arraylength, 1) := by decide +kernel
theorem dX2_init_21 : decode cX2_init 21 = .ok (.if_icmp .ge 22, 3) := by decide +kernel
theorem dX2_init_24 : decode cX2_init 24 = .ok (.aload_n 0, 1) := by decide +kernel
theorem dX2_init_25 : decode cX2_init 25 = .ok (.getfield 11, 3) := by decide +kernel
theorem dX2_init_28 : decode cX2_init 28 = .ok (.iload_n 1, 1) := by decide +kernel
theorem dX2_init_29 : decode cX2_init 29 = .ok (.new 9, 3) := by decide +kernel
theorem dX2_init_32 : decode cX2_init 32 = .ok (.dup, 1) := by decide +kernel
theorem dX2_init_33 : decode cX2_init 33 = .ok (.invokespecial 17, 3) := by decide +kernel
theorem dX2_init_36 : decode cX2_init 36 = .ok (.aastore, 1) := by decide +kernel
theorem dX2_init_37 : decode cX2_init 37 = .ok (.iinc 1 1, 3) := by decide +kernel
theorem dX2_init_40 : decode cX2_init 40 = .ok (.goto (-25), 3) := by decide +kernel
theorem dX2_init_43 : decode cX2_init 43 = .ok (.return_, 1) := by decide +kernel
theorem dX2_clear_0 : decode cX2_clear 0 = .ok (.aload_n 0, 1) := by decide +kernel
theorem dX2_clear_1 : decode cX2_clear 1 = .ok (.iconst 0, 1) := by decide +kernel
theorem dX2_clear_2 : decode cX2_clear 2 = .ok (.putfield 18, 3) := by decide +kernel
theorem dX2_clear_5 : decode cX2_clear 5 = .ok (.return_, 1) := by decide +kernel
theorem dX2_remember_0 : decode cX2_remember 0 = .ok (.aload_n 0, 1) := by decide +kernel
theorem dX2_remember_1 : decode cX2_remember 1 = .ok (.aload_n 0, 1) := by decide +kernel
theorem dX2_remember_2 : decode cX2_remember 2 = .ok (.getfield 22, 3) := by decide +kernel
theorem dX2_remember_5 : decode cX2_remember 5 = .ok (.invokevirtual 25, 3) := by decide +kernel
theorem dX2_remember_8 : decode cX2_remember 8 = .ok (.astore_n 2, 1) := by decide +kernel
theorem dX2_remember_9 : decode cX2_remember 9 = .ok (.aload_n 2, 1) := by decide +kernel
theorem dX2_remember_10 : decode cX2_remember 10 = .ok (.ifnull 36, 3) := by decide +kernel
theorem dX2_remember_13 : decode cX2_remember 13 = .ok (.aload_n 2, 1) := by decide +kernel
theorem dX2_remember_14 : decode cX2_remember 14 = .ok (.aload_n 1, 1) := by decide +kernel
theorem dX2_remember_15 : decode cX2_remember 15 = .ok (.invokevirtual 29, 3) := by decide +kernel
theorem dX2_remember_18 : decode cX2_remember 18 = .ok (.aload_n 0, 1) := by decide +kernel
theorem dX2_remember_19 : decode cX2_remember 19 = .ok (.aload_n 0, 1) := by decide +kernel
theorem dX2_remember_20 : decode cX2_remember 20 = .ok (.getfield 22, 3) := by decide +kernel
theorem dX2_remember_23 : decode cX2_remember 23 = .ok (.iconst 1, 1) := by decide +kernel
theorem dX2_remember_24 : decode cX2_remember 24 = .ok (.iadd, 1) := by decide +kernel
theorem dX2_remember_25 : decode cX2_remember 25 = .ok (.bipush 30, 2) := by decide +kernel
theorem dX2_remember_27 : decode cX2_remember 27 = .ok (.irem, 1) := by decide +kernel
theorem dX2_remember_28 : decode cX2_remember 28 = .ok (.putfield 22, 3) := by decide +kernel
theorem dX2_remember_31 : decode cX2_remember 31 = .ok (.aload_n 0, 1) := by decide +kernel
theorem dX2_remember_32 : decode cX2_remember 32 = .ok (.bipush 30, 2) := by decide +kernel
theorem dX2_remember_34 : decode cX2_remember 34 = .ok (.aload_n 0, 1) := by decide +kernel
theorem dX2_remember_35 : decode cX2_remember 35 = .ok (.getfield 18, 3) := by decide +kernel
theorem dX2_remember_38 : decode cX2_remember 38 = .ok (.iconst 1, 1) := by decide +kernel
theorem dX2_remember_39 : decode cX2_remember 39 = .ok (.iadd, 1) := by decide +kernel
theorem dX2_remember_40 : decode cX2_remember 40 = .ok (.invokestatic 33, 3) := by decide +kernel
theorem dX2_remember_43 : decode cX2_remember 43 = .ok (.putfield 18, 3) := by decide +kernel
theorem dX2_remember_46 : decode cX2_remember 46 = .ok (.return_, 1) := by decide +kernel
theorem dX2_bringBack_0 : decode cX2_bringBack 0 = .ok (.aload_n 0, 1) := by decide +kernel
theorem dX2_bringBack_1 : decode cX2_bringBack 1 = .ok (.getfield 22, 3) := by decide +kernel
theorem dX2_bringBack_4 : decode cX2_bringBack 4 = .ok (.iload_n 1, 1) := by decide +kernel
theorem dX2_bringBack_5 : decode cX2_bringBack 5 = .ok (.isub, 1) := by decide +kernel
theorem dX2_bringBack_6 : decode cX2_bringBack 6 = .ok (.bipush 30, 2) := by decide +kernel
theorem dX2_bringBack_8 : decode cX2_bringBack 8 = .ok (.iadd, 1) := by decide +kernel
theorem dX2_bringBack_9 : decode cX2_bringBack 9 = .ok (.bipush 30, 2) := by decide +kernel
theorem dX2_bringBack_11 : decode cX2_bringBack 11 = .ok (.irem, 1) := by decide +kernel
theorem dX2_bringBack_12 : decode cX2_bringBack 12 = .ok (.istore_n 3, 1) := by decide +kernel
theorem dX2_bringBack_13 : decode cX2_bringBack 13 = .ok (.aload_n 0, 1) := by decide +kernel
theorem dX2_bringBack_14 : decode cX2_bringBack 14 = .ok (.iload_n 3, 1) := by decide +kernel
theorem dX2_bringBack_15 : decode cX2_bringBack 15 = .ok (.invokevirtual 25, 3) := by decide +kernel
theorem dX2_bringBack_18 : decode cX2_bringBack 18 = .ok (.astore 4, 2) := by decide +kernel
theorem dX2_bringBack_20 : decode cX2_bringBack 20 = .ok (.aload 4, 2) := by decide +kernel
theorem dX2_bringBack_22 : decode cX2_bringBack 22 = .ok (.ifnull 24, 3) := by decide +kernel
theorem dX2_bringBack_25 : decode cX2_bringBack 25 = .ok (.aload_n 2, 1) := by decide +kernel
theorem dX2_bringBack_26 : decode cX2_bringBack 26 = .ok (.aload 4, 2) := by decide +kernel
theorem dX2_bringBack_28 : decode cX2_bringBack 28 = .ok (.invokevirtual 29, 3) := by decide +kernel
theorem dX2_bringBack_31 : decode cX2_bringBack 31 = .ok (.aload_n 0, 1) := by decide +kernel
theorem dX2_bringBack_32 : decode cX2_bringBack 32 = .ok (.iload_n 3, 1) := by decide +kernel
theorem dX2_bringBack_33 : decode cX2_bringBack 33 = .ok (.putfield 22, 3) := by decide +kernel
theorem dX2_bringBack_36 : decode cX2_bringBack 36 = .ok (.aload_n 0, 1) := by decide +kernel
theorem dX2_bringBack_37 : decode cX2_bringBack 37 = .ok (.dup, 1) := by decide +kernel
theorem dX2_bringBack_38 : decode cX2_bringBack 38 = .ok (.getfield 18, 3) := by decide +kernel
theorem dX2_bringBack_41 : decode cX2_bringBack 41 = .ok (.iload_n 1, 1) := by decide +kernel
theorem dX2_bringBack_42 : decode cX2_bringBack 42 = .ok (.isub, 1) := by decide +kernel
theorem dX2_bringBack_43 : decode cX2_bringBack 43 = .ok (.putfield 18, 3) := by decide +kernel
theorem dX2_bringBack_46 : decode cX2_bringBack 46 = .ok (.return_, 1) := by decide +kernel
theorem dX2_placeAt_0 : decode cX2_placeAt 0 = .ok (.iload_n 1, 1) := by decide +kernel
theorem dX2_placeAt_1 : decode cX2_placeAt 1 = .ok (.ifCond .lt 21, 3) := by decide +kernel
theorem dX2_placeAt_4 : decode cX2_placeAt 4 = .ok (.iload_n 1, 1) := by decide +kernel
theorem dX2_placeAt_5 : decode cX2_placeAt 5 = .ok (.aload_n 0, 1) := by decide +kernel
theorem dX2_placeAt_6 : decode cX2_placeAt 6 = .ok (.getfield 11, 3) := by decide +kernel
theorem dX2_placeAt_9 : decode cX2_placeAt 9 = .ok (.arraylength, 1) := by decide +kernel
theorem dX2_placeAt_10 : decode cX2_placeAt 10 = .ok (.if_icmp .ge 12, 3) := by decide +kernel
theorem dX2_placeAt_13 : decode cX2_placeAt 13 = .ok (.aload_n 0, 1) := by decide +kernel
theorem dX2_placeAt_14 : decode cX2_placeAt 14 = .ok (.getfield 11, 3) := by decide +kernel
theorem dX2_placeAt_17 : decode cX2_placeAt 17 = .ok (.iload_n 1, 1) := by decide +kernel
theorem dX2_placeAt_18 : decode cX2_placeAt 18 = .ok (.aaload, 1) := by decide +kernel
theorem dX2_placeAt_19 : decode cX2_placeAt 19 = .ok (.goto 4, 3) := by decide +kernel
theorem dX2_placeAt_22 : decode cX2_placeAt 22 = .ok (.aconst_null, 1) := by decide +kernel
theorem dX2_placeAt_23 : decode cX2_placeAt 23 = .ok (.areturn, 1) := by decide +kernel
theorem dX3_init_0 : decode cX3_init 0 = .ok (.aload_n 0, 1) := by decide +kernel
theorem dX3_init_1 : decode cX3_init 1 = .ok (.invokespecial 3, 3) := by decide +kernel
theorem dX3_init_4 : decode cX3_init 4 = .ok (.aload_n 0, 1) := by decide +kernel
theorem dX3_init_5 : decode cX3_init 5 = .ok (.new 9, 3) := by decide +kernel
theorem dX3_init_8 : decode cX3_init 8 = .ok (.dup, 1) := by decide +kernel
theorem dX3_init_9 : decode cX3_init 9 = .ok (.sipush 250, 3) := by decide +kernel
theorem dX3_init_12 : decode cX3_init 12 = .ok (.invokespecial 11, 3) := by decide +kernel
theorem dX3_init_15 : decode cX3_init 15 = .ok (.putfield 14, 3) := by decide +kernel
theorem dX3_init_18 : decode cX3_init 18 = .ok (.aload_n 0, 1) := by decide +kernel
theorem dX3_init_19 : decode cX3_init 19 = .ok (.new 20, 3) := by decide +kernel
theorem dX3_init_22 : decode cX3_init 22 = .ok (.dup, 1) := by decide +kernel
theorem dX3_init_23 : decode cX3_init 23 = .ok (.invokespecial 22, 3) := by decide +kernel
theorem dX3_init_26 : decode cX3_init 26 = .ok (.putfield 23, 3) := by decide +kernel
theorem dX3_init_29 : decode cX3_init 29 = .ok (.aload_n 0, 1) := by decide +kernel
theorem dX3_init_30 : decode cX3_init 30 = .ok (.iconst (-1), 1) := by decide +kernel
theorem dX3_init_31 : decode cX3_init 31 = .ok (.putfield 27, 3) := by decide +kernel
theorem dX3_init_34 : decode cX3_init 34 = .ok (.return_, 1) := by decide +kernel
theorem dX3_readText_0 : decode cX3_readText 0 = .ok (.aload_n 0, 1) := by decide +kernel
theorem dX3_readText_1 : decode cX3_readText 1 = .ok (.getfield 23, 3) := by decide +kernel
theorem dX3_readText_4 : decode cX3_readText 4 = .ok (.invokevirtual 31, 3) := by decide +kernel
theorem dX3_readText_7 : decode cX3_readText 7 = .ok (.aload_n 0, 1) := by decide +kernel
theorem dX3_readText_8 : decode cX3_readText 8 = .ok (.iconst 0, 1) := by decide +kernel
theorem dX3_readText_9 : decode cX3_readText 9 = .ok (.putfield 34, 3) := by decide +kernel
theorem dX3_readText_12 : decode cX3_readText 12 = .ok (.aload_n 0, 1) := by decide +kernel
theorem dX3_readText_13 : decode cX3_readText 13 = .ok (.iconst (-1), 1) := by decide +kernel
theorem dX3_readText_14 : decode cX3_readText 14 = .ok (.putfield 27, 3) := by decide +kernel
theorem dX3_readText_17 : decode cX3_readText 17 = .ok (.aload_n 0, 1) := by decide +kernel
theorem dX3_readText_18 : decode cX3_readText 18 = .ok (.iconst 0, 1) := by decide +kernel
theorem dX3_readText_19 : decode cX3_readText 19 = .ok (.putfield 37, 3) := by decide +kernel
theorem dX3_readText_22 : decode cX3_readText 22 = .ok (.aload_n 0, 1) := by decide +kernel
theorem dX3_readText_23 : decode cX3_readText 23 = .ok (.iconst 0, 1) := by decide +kernel
theorem dX3_readText_24 : decode cX3_readText 24 = .ok (.putfield 40, 3) := by decide +kernel
theorem dX3_readText_27 : decode cX3_readText 27 = .ok (.aload_n 0, 1) := by decide +kernel
theorem dX3_readText_28 : decode cX3_readText 28 = .ok (.iconst 0, 1) := by decide +kernel
theorem dX3_readText_29 : decode cX3_readText 29 = .ok (.putfield 44, 3) := by decide +kernel
theorem dX3_readText_32 : decode cX3_readText 32 = .ok (.iconst 0, 1) := by decide +kernel
theorem dX3_readText_33 : decode cX3_readText 33 = .ok (.istore_n 1, 1) := by decide +kernel
theorem dX3_readText_34 : decode cX3_readText 34 = .ok (.iload_n 1, 1) := by decide +kernel
theorem dX3_readText_35 : decode cX3_readText 35 = .ok (.sipush 250, 3) := by decide +kernel
theorem dX3_readText_38 : decode cX3_readText 38 = .ok (.if_icmp .gt 41, 3) := by decide +kernel
theorem dX3_readText_41 : decode cX3_readText 41 = .ok (.aload_n 0, 1) := by decide +kernel
theorem dX3_readText_42 : decode cX3_readText 42 = .ok (.getfield 34, 3) := by decide +kernel
theorem dX3_readText_45 : decode cX3_readText 45 = .ok (.ifCond .ne 34, 3) := by decide +kernel
theorem dX3_readText_48 : decode cX3_readText 48 = .ok (.aload_n 0, 1) := by decide +kernel
theorem dX3_readText_49 : decode cX3_readText 49 = .ok (.invokevirtual 47, 3) := by decide +kernel
theorem dX3_readText_52 : decode cX3_readText 52 = .ok (.aload_n 0, 1) := by decide +kernel
theorem dX3_readText_53 : decode cX3_readText 53 = .ok (.getfield 37, 3) := by decide +kernel
theorem dX3_readText_56 : decode cX3_readText 56 = .ok (.aload_n 0, 1) := by decide +kernel
theorem dX3_readText_57 : decode cX3_readText 57 = .ok (.getfield 14, 3) := by decide +kernel
theorem dX3_readText_60 : decode cX3_readText 60 = .ok (.getfield 50, 3) := by decide +kernel
theorem dX3_readText_63 : decode cX3_readText 63 = .ok (.if_icmp .lt 6, 3) := by decide +kernel
theorem dX3_readText_66 : decode cX3_readText 66 = .ok (.goto 13, 3) := by decide +kernel
theorem dX3_readText_69 : decode cX3_readText 69 = .ok (.aload_n 0, 1) := by decide +kernel
theorem dX3_readText_70 : decode cX3_readText 70 = .ok (.invokevirtual 53, 3) := by decide +kernel
theorem dX3_readText_73 : decode cX3_readText 73 = .ok (.iinc 1 1, 3) := by decide +kernel
theorem dX3_readText_76 : decode cX3_readText 76 = .ok (.goto (-42), 3) := by decide +kernel
theorem dX3_readText_79 : decode cX3_readText 79 = .ok (.aload_n 0, 1) := by decide +kernel
theorem dX3_readText_80 : decode cX3_readText 80 = .ok (.getfield 14, 3) := by decide +kernel
theorem dX3_readText_83 : decode cX3_readText 83 = .ok (.invokevirtual 56, 3) := by decide +kernel
theorem dX3_readText_86 : decode cX3_readText 86 = .ok (.return_, 1) := by decide +kernel
theorem dX3_readClause_0 : decode cX3_readClause 0 = .ok (.aload_n 0, 1) := by decide +kernel
theorem dX3_readClause_1 : decode cX3_readClause 1 = .ok (.getfield 14, 3) := by decide +kernel
theorem dX3_readClause_4 : decode cX3_readClause 4 = .ok (.aload_n 0, 1) := by decide +kernel
theorem dX3_readClause_5 : decode cX3_readClause 5 = .ok (.getfield 37, 3) := by decide +kernel
theorem dX3_readClause_8 : decode cX3_readClause 8 = .ok (.invokevirtual 57, 3) := by decide +kernel
theorem dX3_readClause_11 : decode cX3_readClause 11 = .ok (.istore_n 1, 1) := by decide +kernel
theorem dX3_readClause_12 : decode cX3_readClause 12 = .ok (.aload_n 0, 1) := by decide +kernel
theorem dX3_readClause_13 : decode cX3_readClause 13 = .ok (.iload_n 1, 1) := by decide +kernel
theorem dX3_readClause_14 : decode cX3_readClause 14 = .ok (.invokevirtual 61, 3) := by decide +kernel
theorem dX3_readClause_17 : decode cX3_readClause 17 = .ok (.istore_n 2, 1) := by decide +kernel
theorem dX3_readClause_18 : decode cX3_readClause 18 = .ok (.iload_n 2, 1) := by decide +kernel
theorem dX3_readClause_19 : decode cX3_readClause 19 = .ok (.ifCond .eq 13, 3) := by decide +kernel
theorem dX3_readClause_22 : decode cX3_readClause 22 = .ok (.aload_n 0, 1) := by decide +kernel
theorem dX3_readClause_23 : decode cX3_readClause 23 = .ok (.iload_n 2, 1) := by decide +kernel
theorem dX3_readClause_24 : decode cX3_readClause 24 = .ok (.aload_n 0, 1) := by decide +kernel
theorem dX3_readClause_25 : decode cX3_readClause 25 = .ok (.getfield 37, 3) := by decide +kernel
theorem dX3_readClause_28 : decode cX3_readClause 28 = .ok (.invokevirtual 64, 3) := by decide +kernel
theorem dX3_readClause_31 : decode cX3_readClause 31 = .ok (.return_, 1) := by decide +kernel
theorem dX3_readClause_32 : decode cX3_readClause 32 = .ok (.aload_n 0, 1) := by decide +kernel
theorem dX3_readClause_33 : decode cX3_readClause 33 = .ok (.dup, 1) := by decide +kernel
theorem dX3_readClause_34 : decode cX3_readClause 34 = .ok (.getfield 37, 3) := by decide +kernel
theorem dX3_readClause_37 : decode cX3_readClause 37 = .ok (.iconst 1, 1) := by decide +kernel
theorem dX3_readClause_38 : decode cX3_readClause 38 = .ok (.iadd, 1) := by decide +kernel
theorem dX3_readClause_39 : decode cX3_readClause 39 = .ok (.putfield 37, 3) := by decide +kernel
theorem dX3_readClause_42 : decode cX3_readClause 42 = .ok (.iload_n 1, 1) := by decide +kernel
theorem dX3_readClause_43 : decode cX3_readClause 43 = .ok (.lookupswitch 54 #[(108, 33), (112, 40), (115, 47)], 33) := by decide +kernel
theorem dX3_readClause_76 : decode cX3_readClause 76 = .ok (.aload_n 0, 1) := by decide +kernel
theorem dX3_readClause_77 : decode cX3_readClause 77 = .ok (.invokevirtual 68, 3) := by decide +kernel
theorem dX3_readClause_80 : decode cX3_readClause 80 = .ok (.goto 40, 3) := by decide +kernel
theorem dX3_readClause_83 : decode cX3_readClause 83 = .ok (.aload_n 0, 1) := by decide +kernel
theorem dX3_readClause_84 : decode cX3_readClause 84 = .ok (.invokevirtual 71, 3) := by decide +kernel
theorem dX3_readClause_87 : decode cX3_readClause 87 = .ok (.goto 33, 3) := by decide +kernel
theorem dX3_readClause_90 : decode cX3_readClause 90 = .ok (.aload_n 0, 1) := by decide +kernel
theorem dX3_readClause_91 : decode cX3_readClause 91 = .ok (.invokevirtual 74, 3) := by decide +kernel
theorem dX3_readClause_94 : decode cX3_readClause 94 = .ok (.goto 26, 3) := by decide +kernel
theorem dX3_readClause_97 : decode cX3_readClause 97 = .ok (.aload_n 0, 1) := by decide +kernel
theorem dX3_readClause_98 : decode cX3_readClause 98 = .ok (.getfield 23, 3) := by decide +kernel
theorem dX3_readClause_101 : decode cX3_readClause 101 = .ok (.aload_n 0, 1) := by decide +kernel
theorem dX3_readClause_102 : decode cX3_readClause 102 = .ok (.iconst 0, 1) := by decide +kernel
theorem dX3_readClause_103 : decode cX3_readClause 103 = .ok (.bipush 12, 2) := by decide +kernel
theorem dX3_readClause_105 : decode cX3_readClause 105 = .ok (.invokevirtual 77, 3) := by decide +kernel
theorem dX3_readClause_108 : decode cX3_readClause 108 = .ok (.putfield 81, 3) := by decide +kernel
theorem dX3_readClause_111 : decode cX3_readClause 111 = .ok (.aload_n 0, 1) := by decide +kernel
theorem dX3_readClause_112 : decode cX3_readClause 112 = .ok (.iconst 1, 1) := by decide +kernel
theorem dX3_readClause_113 : decode cX3_readClause 113 = .ok (.putfield 44, 3) := by decide +kernel
theorem dX3_readClause_116 : decode cX3_readClause 116 = .ok (.aload_n 0, 1) := by decide +kernel
theorem dX3_readClause_117 : decode cX3_readClause 117 = .ok (.invokevirtual 84, 3) := by decide +kernel
theorem dX3_readClause_120 : decode cX3_readClause 120 = .ok (.return_, 1) := by decide +kernel
theorem dX3_faultOfWord_0 : decode cX3_faultOfWord 0 = .ok (.iload_n 1, 1) := by decide +kernel
theorem dX3_faultOfWord_1 : decode cX3_faultOfWord 1 = .ok (.bipush 108, 2) := by decide +kernel
theorem dX3_faultOfWord_3 : decode cX3_faultOfWord 3 = .ok (.if_icmp .eq 31, 3) := by decide +kernel
theorem dX3_faultOfWord_6 : decode cX3_faultOfWord 6 = .ok (.aload_n 0, 1) := by decide +kernel
theorem dX3_faultOfWord_7 : decode cX3_faultOfWord 7 = .ok (.getfield 23, 3) := by decide +kernel
theorem dX3_faultOfWord_10 : decode cX3_faultOfWord 10 = .ok (.getfield 87, 3) := by decide +kernel
theorem dX3_faultOfWord_13 : decode cX3_faultOfWord 13 = .ok (.ifCond .le 25, 3) := by decide +kernel
theorem dX3_faultOfWord_16 : decode cX3_faultOfWord 16 = .ok (.iload_n 1, 1) := by decide +kernel
theorem dX3_faultOfWord_17 : decode cX3_faultOfWord 17 = .ok (.bipush 112, 2) := by decide +kernel
theorem dX3_faultOfWord_19 : decode cX3_faultOfWord 19 = .ok (.if_icmp .eq 15, 3) := by decide +kernel
theorem dX3_faultOfWord_22 : decode cX3_faultOfWord 22 = .ok (.iload_n 1, 1) := by decide +kernel
theorem dX3_faultOfWord_23 : decode cX3_faultOfWord 23 = .ok (.bipush 115, 2) := by decide +kernel
theorem dX3_faultOfWord_25 : decode cX3_faultOfWord 25 = .ok (.if_icmp .eq 9, 3) := by decide +kernel
theorem dX3_faultOfWord_28 : decode cX3_faultOfWord 28 = .ok (.iload_n 1, 1) := by decide +kernel
theorem dX3_faultOfWord_29 : decode cX3_faultOfWord 29 = .ok (.bipush 99, 2) := by decide +kernel
theorem dX3_faultOfWord_31 : decode cX3_faultOfWord 31 = .ok (.if_icmp .ne 7, 3) := by decide +kernel
theorem dX3_faultOfWord_34 : decode cX3_faultOfWord 34 = .ok (.iconst 1, 1) := by decide +kernel
theorem dX3_faultOfWord_35 : decode cX3_faultOfWord 35 = .ok (.goto 4, 3) := by decide +kernel
theorem dX3_faultOfWord_38 : decode cX3_faultOfWord 38 = .ok (.iconst 0, 1) := by decide +kernel
theorem dX3_faultOfWord_39 : decode cX3_faultOfWord 39 = .ok (.istore_n 2, 1) := by decide +kernel
theorem dX3_faultOfWord_40 : decode cX3_faultOfWord 40 = .ok (.iload_n 2, 1) := by decide +kernel
theorem dX3_faultOfWord_41 : decode cX3_faultOfWord 41 = .ok (.ifCond .ne 5, 3) := by decide +kernel
theorem dX3_faultOfWord_44 : decode cX3_faultOfWord 44 = .ok (.iconst 1, 1) := by decide +kernel
theorem dX3_faultOfWord_45 : decode cX3_faultOfWord 45 = .ok (.ireturn, 1) := by decide +kernel
theorem dX3_faultOfWord_46 : decode cX3_faultOfWord 46 = .ok (.iload_n 1, 1) := by decide +kernel
theorem dX3_faultOfWord_47 : decode cX3_faultOfWord 47 = .ok (.bipush 108, 2) := by decide +kernel
theorem dX3_faultOfWord_49 : decode cX3_faultOfWord 49 = .ok (.if_icmp .ne 13, 3) := by decide +kernel
theorem dX3_faultOfWord_52 : decode cX3_faultOfWord 52 = .ok (.aload_n 0, 1) := by decide +kernel
theorem dX3_faultOfWord_53 : decode cX3_faultOfWord 53 = .ok (.getfield 23, 3) := by decide +kernel
theorem dX3_faultOfWord_56 : decode cX3_faultOfWord 56 = .ok (.getfield 87, 3) := by decide +kernel
theorem dX3_faultOfWord_59 : decode cX3_faultOfWord 59 = .ok (.ifCond .gt 46, 3) := by decide +kernel
theorem dX3_faultOfWord_62 : decode cX3_faultOfWord 62 = .ok (.iload_n 1, 1) := by decide +kernel
theorem dX3_faultOfWord_63 : decode cX3_faultOfWord 63 = .ok (.bipush 112, 2) := by decide +kernel
theorem dX3_faultOfWord_65 : decode cX3_faultOfWord 65 = .ok (.if_icmp .ne 14, 3) := by decide +kernel
theorem dX3_faultOfWord_68 : decode cX3_faultOfWord 68 = .ok (.aload_n 0, 1) := by decide +kernel
theorem dX3_faultOfWord_69 : decode cX3_faultOfWord 69 = .ok (.getfield 23, 3) := by decide +kernel
theorem dX3_faultOfWord_72 : decode cX3_faultOfWord 72 = .ok (.getfield 90, 3) := by decide +kernel
theorem dX3_faultOfWord_75 : decode cX3_faultOfWord 75 = .ok (.iconst 4, 1) := by decide +kernel
theorem dX3_faultOfWord_76 : decode cX3_faultOfWord 76 = .ok (.if_icmp .ge 29, 3) := by decide +kernel
theorem dX3_faultOfWord_79 : decode cX3_faultOfWord 79 = .ok (.iload_n 1, 1) := by decide +kernel
theorem dX3_faultOfWord_80 : decode cX3_faultOfWord 80 = .ok (.bipush 115, 2) := by decide +kernel
theorem dX3_faultOfWord_82 : decode cX3_faultOfWord 82 = .ok (.if_icmp .ne 10, 3) := by decide +kernel
theorem dX3_faultOfWord_85 : decode cX3_faultOfWord 85 = .ok (.aload_n 0, 1) := by decide +kernel
theorem dX3_faultOfWord_86 : decode cX3_faultOfWord 86 = .ok (.getfield 40, 3) := by decide +kernel
theorem dX3_faultOfWord_89 : decode cX3_faultOfWord 89 = .ok (.ifCond .ne 16, 3) := by decide +kernel
theorem dX3_faultOfWord_92 : decode cX3_faultOfWord 92 = .ok (.iload_n 1, 1) := by decide +kernel
theorem dX3_faultOfWord_93 : decode cX3_faultOfWord 93 = .ok (.bipush 99, 2) := by decide +kernel
theorem dX3_faultOfWord_95 : decode cX3_faultOfWord 95 = .ok (.if_icmp .ne 14, 3) := by decide +kernel
theorem dX3_faultOfWord_98 : decode cX3_faultOfWord 98 = .ok (.aload_n 0, 1) := by decide +kernel
theorem dX3_faultOfWord_99 : decode cX3_faultOfWord 99 = .ok (.getfield 44, 3) := by decide +kernel
theorem dX3_faultOfWord_102 : decode cX3_faultOfWord 102 = .ok (.ifCond .eq 7, 3) := by decide +kernel
theorem dX3_faultOfWord_105 : decode cX3_faultOfWord 105 = .ok (.iconst 1, 1) := by decide +kernel
theorem dX3_faultOfWord_106 : decode cX3_faultOfWord 106 = .ok (.goto 4, 3) := by decide +kernel
theorem dX3_faultOfWord_109 : decode cX3_faultOfWord 109 = .ok (.iconst 0, 1) := by decide +kernel
theorem dX3_faultOfWord_110 : decode cX3_faultOfWord 110 = .ok (.istore_n 3, 1) := by decide +kernel
theorem dX3_faultOfWord_111 : decode cX3_faultOfWord 111 = .ok (.iload_n 3, 1) := by decide +kernel
theorem dX3_faultOfWord_112 : decode cX3_faultOfWord 112 = .ok (.ifCond .eq 7, 3) := by decide +kernel
theorem dX3_faultOfWord_115 : decode cX3_faultOfWord 115 = .ok (.iconst 3, 1) := by decide +kernel
theorem dX3_faultOfWord_116 : decode cX3_faultOfWord 116 = .ok (.goto 4, 3) := by decide +kernel
theorem dX3_faultOfWord_119 : decode cX3_faultOfWord 119 = .ok (.iconst 0, 1) := by decide +kernel
theorem dX3_faultOfWord_120 : decode cX3_faultOfWord 120 = .ok (.ireturn, 1) := by decide +kernel
theorem dX3_readLayers_0 : decode cX3_readLayers 0 = .ok (.iconst 0, 1) := by decide +kernel
theorem dX3_readLayers_1 : decode cX3_readLayers 1 = .ok (.istore_n 1, 1) := by decide +kernel
theorem dX3_readLayers_2 : decode cX3_readLayers 2 = .ok (.iload_n 1, 1) := by decide +kernel
theorem dX3_readLayers_3 : decode cX3_readLayers 3 = .ok (.bipush 12, 2) := by decide +kernel
theorem dX3_readLayers_5 : decode cX3_readLayers 5 = .ok (.if_icmp .ge 78, 3) := by decide +kernel
theorem dX3_readLayers_8 : decode cX3_readLayers 8 = .ok (.aload_n 0, 1) := by decide +kernel
theorem dX3_readLayers_9 : decode cX3_readLayers 9 = .ok (.getfield 23, 3) := by decide +kernel
theorem dX3_readLayers_12 : decode cX3_readLayers 12 = .ok (.getfield 93, 3) := by decide +kernel
theorem dX3_readLayers_15 : decode cX3_readLayers 15 = .ok (.iload_n 1, 1) := by decide +kernel
theorem dX3_readLayers_16 : decode cX3_readLayers 16 = .ok (.aload_n 0, 1) := by decide +kernel
theorem dX3_readLayers_17 : decode cX3_readLayers 17 = .ok (.iconst 1, 1) := by decide +kernel
theorem dX3_readLayers_18 : decode cX3_readLayers 18 = .ok (.bipush 9, 2) := by decide +kernel
theorem dX3_readLayers_20 : decode cX3_readLayers 20 = .ok (.invokevirtual 77, 3) := by decide +kernel
theorem dX3_readLayers_23 : decode cX3_readLayers 23 = .ok (.invokestatic 97, 3) := by decide +kernel
theorem dX3_readLayers_26 : decode cX3_readLayers 26 = .ok (.aload_n 0, 1) := by decide +kernel
theorem dX3_readLayers_27 : decode cX3_readLayers 27 = .ok (.getfield 23, 3) := by decide +kernel
theorem dX3_readLayers_30 : decode cX3_readLayers 30 = .ok (.iload_n 1, 1) := by decide +kernel
theorem dX3_readLayers_31 : decode cX3_readLayers 31 = .ok (.iconst 1, 1) := by decide +kernel
theorem dX3_readLayers_32 : decode cX3_readLayers 32 = .ok (.iadd, 1) := by decide +kernel
theorem dX3_readLayers_33 : decode cX3_readLayers 33 = .ok (.putfield 87, 3) := by decide +kernel
theorem dX3_readLayers_36 : decode cX3_readLayers 36 = .ok (.aload_n 0, 1) := by decide +kernel
theorem dX3_readLayers_37 : decode cX3_readLayers 37 = .ok (.invokevirtual 47, 3) := by decide +kernel
theorem dX3_readLayers_40 : decode cX3_readLayers 40 = .ok (.iload_n 1, 1) := by decide +kernel
theorem dX3_readLayers_41 : decode cX3_readLayers 41 = .ok (.iconst 1, 1) := by decide +kernel
theorem dX3_readLayers_42 : decode cX3_readLayers 42 = .ok (.iadd, 1) := by decide +kernel
theorem dX3_readLayers_43 : decode cX3_readLayers 43 = .ok (.bipush 12, 2) := by decide +kernel
theorem dX3_readLayers_45 : decode cX3_readLayers 45 = .ok (.if_icmp .eq 38, 3) := by decide +kernel
theorem dX3_readLayers_48 : decode cX3_readLayers 48 = .ok (.aload_n 0, 1) := by decide +kernel
theorem dX3_readLayers_49 : decode cX3_readLayers 49 = .ok (.getfield 14, 3) := by decide +kernel
theorem dX3_readLayers_52 : decode cX3_readLayers 52 = .ok (.aload_n 0, 1) := by decide +kernel
theorem dX3_readLayers_53 : decode cX3_readLayers 53 = .ok (.getfield 37, 3) := by decide +kernel
theorem dX3_readLayers_56 : decode cX3_readLayers 56 = .ok (.invokevirtual 57, 3) := by decide +kernel
theorem dX3_readLayers_59 : decode cX3_readLayers 59 = .ok (.bipush 44, 2) := by decide +kernel
theorem dX3_readLayers_61 : decode cX3_readLayers 61 = .ok (.if_icmp .eq 6, 3) := by decide +kernel
theorem dX3_readLayers_64 : decode cX3_readLayers 64 = .ok (.goto 19, 3) := by decide +kernel
theorem dX3_readLayers_67 : decode cX3_readLayers 67 = .ok (.aload_n 0, 1) := by decide +kernel
theorem dX3_readLayers_68 : decode cX3_readLayers 68 = .ok (.dup, 1) := by decide +kernel
theorem dX3_readLayers_69 : decode cX3_readLayers 69 = .ok (.getfield 37, 3) := by decide +kernel
theorem dX3_readLayers_72 : decode cX3_readLayers 72 = .ok (.iconst 1, 1) := by decide +kernel
theorem dX3_readLayers_73 : decode cX3_readLayers 73 = .ok (.iadd, 1) := by decide +kernel
theorem dX3_readLayers_74 : decode cX3_readLayers 74 = .ok (.putfield 37, 3) := by decide +kernel
theorem dX3_readLayers_77 : decode cX3_readLayers 77 = .ok (.iinc 1 1, 3) := by decide +kernel
theorem dX3_readLayers_80 : decode cX3_readLayers 80 = .ok (.goto (-78), 3) := by decide +kernel
theorem dX3_readLayers_83 : decode cX3_readLayers 83 = .ok (.aload_n 0, 1) := by decide +kernel
theorem dX3_readLayers_84 : decode cX3_readLayers 84 = .ok (.invokevirtual 84, 3) := by decide +kernel
theorem dX3_readLayers_87 : decode cX3_readLayers 87 = .ok (.return_, 1) := by decide +kernel
theorem dX3_readPerson_0 : decode cX3_readPerson 0 = .ok (.aload_n 0, 1) := by decide +kernel
theorem dX3_readPerson_1 : decode cX3_readPerson 1 = .ok (.getfield 23, 3) := by decide +kernel
theorem dX3_readPerson_4 : decode cX3_readPerson 4 = .ok (.getfield 90, 3) := by decide +kernel
theorem dX3_readPerson_7 : decode cX3_readPerson 7 = .ok (.istore_n 1, 1) := by decide +kernel
theorem dX3_readPerson_8 : decode cX3_readPerson 8 = .ok (.aload_n 0, 1) := by decide +kernel
theorem dX3_readPerson_9 : decode cX3_readPerson 9 = .ok (.getfield 23, 3) := by decide +kernel
theorem dX3_readPerson_12 : decode cX3_readPerson 12 = .ok (.getfield 103, 3) := by decide +kernel
theorem dX3_readPerson_15 : decode cX3_readPerson 15 = .ok (.iload_n 1, 1) := by decide +kernel
theorem dX3_readPerson_16 : decode cX3_readPerson 16 = .ok (.aload_n 0, 1) := by decide +kernel
theorem dX3_readPerson_17 : decode cX3_readPerson 17 = .ok (.iconst 1, 1) := by decide +kernel
theorem dX3_readPerson_18 : decode cX3_readPerson 18 = .ok (.bipush 20, 2) := by decide +kernel
theorem dX3_readPerson_20 : decode cX3_readPerson 20 = .ok (.invokevirtual 77, 3) := by decide +kernel
theorem dX3_readPerson_23 : decode cX3_readPerson 23 = .ok (.invokestatic 97, 3) := by decide +kernel
theorem dX3_readPerson_26 : decode cX3_readPerson 26 = .ok (.aload_n 0, 1) := by decide +kernel
theorem dX3_readPerson_27 : decode cX3_readPerson 27 = .ok (.getfield 23, 3) := by decide +kernel
theorem dX3_readPerson_30 : decode cX3_readPerson 30 = .ok (.getfield 106, 3) := by decide +kernel
theorem dX3_readPerson_33 : decode cX3_readPerson 33 = .ok (.iload_n 1, 1) := by decide +kernel
theorem dX3_readPerson_34 : decode cX3_readPerson 34 = .ok (.aload_n 0, 1) := by decide +kernel
theorem dX3_readPerson_35 : decode cX3_readPerson 35 = .ok (.iconst 0, 1) := by decide +kernel
theorem dX3_readPerson_36 : decode cX3_readPerson 36 = .ok (.bipush 9, 2) := by decide +kernel
theorem dX3_readPerson_38 : decode cX3_readPerson 38 = .ok (.invokevirtual 77, 3) := by decide +kernel
theorem dX3_readPerson_41 : decode cX3_readPerson 41 = .ok (.invokestatic 97, 3) := by decide +kernel
theorem dX3_readPerson_44 : decode cX3_readPerson 44 = .ok (.aload_n 0, 1) := by decide +kernel
theorem dX3_readPerson_45 : decode cX3_readPerson 45 = .ok (.getfield 23, 3) := by decide +kernel
theorem dX3_readPerson_48 : decode cX3_readPerson 48 = .ok (.getfield 109, 3) := by decide +kernel
theorem dX3_readPerson_51 : decode cX3_readPerson 51 = .ok (.iload_n 1, 1) := by decide +kernel
theorem dX3_readPerson_52 : decode cX3_readPerson 52 = .ok (.aload_n 0, 1) := by decide +kernel
theorem dX3_readPerson_53 : decode cX3_readPerson 53 = .ok (.iconst 0, 1) := by decide +kernel
theorem dX3_readPerson_54 : decode cX3_readPerson 54 = .ok (.iconst 5, 1) := by decide +kernel
theorem dX3_readPerson_55 : decode cX3_readPerson 55 = .ok (.invokevirtual 77, 3) := by decide +kernel
theorem dX3_readPerson_58 : decode cX3_readPerson 58 = .ok (.invokestatic 97, 3) := by decide +kernel
theorem dX3_readPerson_61 : decode cX3_readPerson 61 = .ok (.aload_n 0, 1) := by decide +kernel
theorem dX3_readPerson_62 : decode cX3_readPerson 62 = .ok (.getfield 23, 3) := by decide +kernel
theorem dX3_readPerson_65 : decode cX3_readPerson 65 = .ok (.getfield 112, 3) := by decide +kernel
theorem dX3_readPerson_68 : decode cX3_readPerson 68 = .ok (.iload_n 1, 1) := by decide +kernel
theorem dX3_readPerson_69 : decode cX3_readPerson 69 = .ok (.aload_n 0, 1) := by decide +kernel
theorem dX3_readPerson_70 : decode cX3_readPerson 70 = .ok (.iconst 0, 1) := by decide +kernel
theorem dX3_readPerson_71 : decode cX3_readPerson 71 = .ok (.bipush 9, 2) := by decide +kernel
theorem dX3_readPerson_73 : decode cX3_readPerson 73 = .ok (.invokevirtual 77, 3) := by decide +kernel
theorem dX3_readPerson_76 : decode cX3_readPerson 76 = .ok (.invokestatic 97, 3) := by decide +kernel
theorem dX3_readPerson_79 : decode cX3_readPerson 79 = .ok (.aload_n 0, 1) := by decide +kernel
theorem dX3_readPerson_80 : decode cX3_readPerson 80 = .ok (.getfield 23, 3) := by decide +kernel
theorem dX3_readPerson_83 : decode cX3_readPerson 83 = .ok (.getfield 115, 3) := by decide +kernel
theorem dX3_readPerson_86 : decode cX3_readPerson 86 = .ok (.iload_n 1, 1) := by decide +kernel
theorem dX3_readPerson_87 : decode cX3_readPerson 87 = .ok (.aload_n 0, 1) := by decide +kernel
theorem dX3_readPerson_88 : decode cX3_readPerson 88 = .ok (.iconst 0, 1) := by decide +kernel
theorem dX3_readPerson_89 : decode cX3_readPerson 89 = .ok (.iconst 2, 1) := by decide +kernel
theorem dX3_readPerson_90 : decode cX3_readPerson 90 = .ok (.invokevirtual 77, 3) := by decide +kernel
theorem dX3_readPerson_93 : decode cX3_readPerson 93 = .ok (.invokestatic 97, 3) := by decide +kernel
theorem dX3_readPerson_96 : decode cX3_readPerson 96 = .ok (.aload_n 0, 1) := by decide +kernel
theorem dX3_readPerson_97 : decode cX3_readPerson 97 = .ok (.getfield 23, 3) := by decide +kernel
theorem dX3_readPerson_100 : decode cX3_readPerson 100 = .ok (.iload_n 1, 1) := by decide +kernel
theorem dX3_readPerson_101 : decode cX3_readPerson 101 = .ok (.iconst 1, 1) := by decide +kernel
theorem dX3_readPerson_102 : decode cX3_readPerson 102 = .ok (.iadd, 1) := by decide +kernel
theorem dX3_readPerson_103 : decode cX3_readPerson 103 = .ok (.putfield 90, 3) := by decide +kernel
theorem dX3_readPerson_106 : decode cX3_readPerson 106 = .ok (.aload_n 0, 1) := by decide +kernel
theorem dX3_readPerson_107 : decode cX3_readPerson 107 = .ok (.invokevirtual 84, 3) := by decide +kernel
theorem dX3_readPerson_110 : decode cX3_readPerson 110 = .ok (.return_, 1) := by decide +kernel
theorem dX3_readSaw_0 : decode cX3_readSaw 0 = .ok (.aload_n 0, 1) := by decide +kernel
theorem dX3_readSaw_1 : decode cX3_readSaw 1 = .ok (.getfield 23, 3) := by decide +kernel
theorem dX3_readSaw_4 : decode cX3_readSaw 4 = .ok (.aload_n 0, 1) := by decide +kernel
theorem dX3_readSaw_5 : decode cX3_readSaw 5 = .ok (.iconst 1, 1) := by decide +kernel
theorem dX3_readSaw_6 : decode cX3_readSaw 6 = .ok (.bipush 9, 2) := by decide +kernel
theorem dX3_readSaw_8 : decode cX3_readSaw 8 = .ok (.invokevirtual 77, 3) := by decide +kernel
theorem dX3_readSaw_11 : decode cX3_readSaw 11 = .ok (.putfield 118, 3) := by decide +kernel
theorem dX3_readSaw_14 : decode cX3_readSaw 14 = .ok (.aload_n 0, 1) := by decide +kernel
theorem dX3_readSaw_15 : decode cX3_readSaw 15 = .ok (.getfield 23, 3) := by decide +kernel
theorem dX3_readSaw_18 : decode cX3_readSaw 18 = .ok (.aload_n 0, 1) := by decide +kernel
theorem dX3_readSaw_19 : decode cX3_readSaw 19 = .ok (.iconst 0, 1) := by decide +kernel
theorem dX3_readSaw_20 : decode cX3_readSaw 20 = .ok (.bipush 9, 2) := by decide +kernel
theorem dX3_readSaw_22 : decode cX3_readSaw 22 = .ok (.invokevirtual 77, 3) := by decide +kernel
theorem dX3_readSaw_25 : decode cX3_readSaw 25 = .ok (.putfield 121, 3) := by decide +kernel
theorem dX3_readSaw_28 : decode cX3_readSaw 28 = .ok (.aload_n 0, 1) := by decide +kernel
theorem dX3_readSaw_29 : decode cX3_readSaw 29 = .ok (.getfield 23, 3) := by decide +kernel
theorem dX3_readSaw_32 : decode cX3_readSaw 32 = .ok (.aload_n 0, 1) := by decide +kernel
theorem dX3_readSaw_33 : decode cX3_readSaw 33 = .ok (.iconst 0, 1) := by decide +kernel
theorem dX3_readSaw_34 : decode cX3_readSaw 34 = .ok (.bipush 9, 2) := by decide +kernel
theorem dX3_readSaw_36 : decode cX3_readSaw 36 = .ok (.invokevirtual 77, 3) := by decide +kernel
theorem dX3_readSaw_39 : decode cX3_readSaw 39 = .ok (.putfield 124, 3) := by decide +kernel
theorem dX3_readSaw_42 : decode cX3_readSaw 42 = .ok (.aload_n 0, 1) := by decide +kernel
theorem dX3_readSaw_43 : decode cX3_readSaw 43 = .ok (.iconst 1, 1) := by decide +kernel
theorem dX3_readSaw_44 : decode cX3_readSaw 44 = .ok (.putfield 40, 3) := by decide +kernel
theorem dX3_readSaw_47 : decode cX3_readSaw 47 = .ok (.aload_n 0, 1) := by decide +kernel
theorem dX3_readSaw_48 : decode cX3_readSaw 48 = .ok (.invokevirtual 84, 3) := by decide +kernel
theorem dX3_readSaw_51 : decode cX3_readSaw 51 = .ok (.return_, 1) := by decide +kernel
theorem dX3_readEnd_0 : decode cX3_readEnd 0 = .ok (.aload_n 0, 1) := by decide +kernel
theorem dX3_readEnd_1 : decode cX3_readEnd 1 = .ok (.invokevirtual 47, 3) := by decide +kernel
theorem dX3_readEnd_4 : decode cX3_readEnd 4 = .ok (.aload_n 0, 1) := by decide +kernel
theorem dX3_readEnd_5 : decode cX3_readEnd 5 = .ok (.getfield 14, 3) := by decide +kernel
theorem dX3_readEnd_8 : decode cX3_readEnd 8 = .ok (.aload_n 0, 1) := by decide +kernel
theorem dX3_readEnd_9 : decode cX3_readEnd 9 = .ok (.getfield 37, 3) := by decide +kernel
theorem dX3_readEnd_12 : decode cX3_readEnd 12 = .ok (.invokevirtual 57, 3) := by decide +kernel
theorem dX3_readEnd_15 : decode cX3_readEnd 15 = .ok (.bipush 59, 2) := by decide +kernel
theorem dX3_readEnd_17 : decode cX3_readEnd 17 = .ok (.if_icmp .ne 16, 3) := by decide +kernel
theorem dX3_readEnd_20 : decode cX3_readEnd 20 = .ok (.aload_n 0, 1) := by decide +kernel
theorem dX3_readEnd_21 : decode cX3_readEnd 21 = .ok (.dup, 1) := by decide +kernel
theorem dX3_readEnd_22 : decode cX3_readEnd 22 = .ok (.getfield 37, 3) := by decide +kernel
theorem dX3_readEnd_25 : decode cX3_readEnd 25 = .ok (.iconst 1, 1) := by decide +kernel
theorem dX3_readEnd_26 : decode cX3_readEnd 26 = .ok (.iadd, 1) := by decide +kernel
theorem dX3_readEnd_27 : decode cX3_readEnd 27 = .ok (.putfield 37, 3) := by decide +kernel
theorem dX3_readEnd_30 : decode cX3_readEnd 30 = .ok (.goto 12, 3) := by decide +kernel
theorem dX3_readEnd_33 : decode cX3_readEnd 33 = .ok (.aload_n 0, 1) := by decide +kernel
theorem dX3_readEnd_34 : decode cX3_readEnd 34 = .ok (.iconst 1, 1) := by decide +kernel
theorem dX3_readEnd_35 : decode cX3_readEnd 35 = .ok (.aload_n 0, 1) := by decide +kernel
theorem dX3_readEnd_36 : decode cX3_readEnd 36 = .ok (.getfield 37, 3) := by decide +kernel
theorem dX3_readEnd_39 : decode cX3_readEnd 39 = .ok (.invokevirtual 64, 3) := by decide +kernel
theorem dX3_readEnd_42 : decode cX3_readEnd 42 = .ok (.return_, 1) := by decide +kernel
theorem dX3_readNumber_0 : decode cX3_readNumber 0 = .ok (.aload_n 0, 1) := by decide +kernel
theorem dX3_readNumber_1 : decode cX3_readNumber 1 = .ok (.invokevirtual 47, 3) := by decide +kernel
theorem dX3_readNumber_4 : decode cX3_readNumber 4 = .ok (.aload_n 0, 1) := by decide +kernel
theorem dX3_readNumber_5 : decode cX3_readNumber 5 = .ok (.getfield 37, 3) := by decide +kernel
theorem dX3_readNumber_8 : decode cX3_readNumber 8 = .ok (.istore_n 3, 1) := by decide +kernel
theorem dX3_readNumber_9 : decode cX3_readNumber 9 = .ok (.iconst 0, 1) := by decide +kernel
theorem dX3_readNumber_10 : decode cX3_readNumber 10 = .ok (.istore 4, 2) := by decide +kernel
theorem dX3_readNumber_12 : decode cX3_readNumber 12 = .ok (.iconst 0, 1) := by decide +kernel
theorem dX3_readNumber_13 : decode cX3_readNumber 13 = .ok (.istore 5, 2) := by decide +kernel
theorem dX3_readNumber_15 : decode cX3_readNumber 15 = .ok (.iload 5, 2) := by decide +kernel
theorem dX3_readNumber_17 : decode cX3_readNumber 17 = .ok (.sipush 250, 3) := by decide +kernel
theorem dX3_readNumber_20 : decode cX3_readNumber 20 = .ok (.if_icmp .ge 69, 3) := by decide +kernel
theorem dX3_readNumber_23 : decode cX3_readNumber 23 = .ok (.aload_n 0, 1) := by decide +kernel
theorem dX3_readNumber_24 : decode cX3_readNumber 24 = .ok (.getfield 14, 3) := by decide +kernel
theorem dX3_readNumber_27 : decode cX3_readNumber 27 = .ok (.aload_n 0, 1) := by decide +kernel
theorem dX3_readNumber_28 : decode cX3_readNumber 28 = .ok (.getfield 37, 3) := by decide +kernel
theorem dX3_readNumber_31 : decode cX3_readNumber 31 = .ok (.invokevirtual 57, 3) := by decide +kernel
theorem dX3_readNumber_34 : decode cX3_readNumber 34 = .ok (.invokestatic 127, 3) := by decide +kernel
theorem dX3_readNumber_37 : decode cX3_readNumber 37 = .ok (.ifCond .eq 52, 3) := by decide +kernel
theorem dX3_readNumber_40 : decode cX3_readNumber 40 = .ok (.iload 5, 2) := by decide +kernel
theorem dX3_readNumber_42 : decode cX3_readNumber 42 = .ok (.iconst 3, 1) := by decide +kernel
theorem dX3_readNumber_43 : decode cX3_readNumber 43 = .ok (.if_icmp .ge 26, 3) := by decide +kernel
theorem dX3_readNumber_46 : decode cX3_readNumber 46 = .ok (.iload 4, 2) := by decide +kernel
theorem dX3_readNumber_48 : decode cX3_readNumber 48 = .ok (.bipush 10, 2) := by decide +kernel
theorem dX3_readNumber_50 : decode cX3_readNumber 50 = .ok (.imul, 1) := by decide +kernel
theorem dX3_readNumber_51 : decode cX3_readNumber 51 = .ok (.aload_n 0, 1) := by decide +kernel
theorem dX3_readNumber_52 : decode cX3_readNumber 52 = .ok (.getfield 14, 3) := by decide +kernel
theorem dX3_readNumber_55 : decode cX3_readNumber 55 = .ok (.aload_n 0, 1) := by decide +kernel
theorem dX3_readNumber_56 : decode cX3_readNumber 56 = .ok (.getfield 37, 3) := by decide +kernel
theorem dX3_readNumber_59 : decode cX3_readNumber 59 = .ok (.invokevirtual 57, 3) := by decide +kernel
theorem dX3_readNumber_62 : decode cX3_readNumber 62 = .ok (.iadd, 1) := by decide +kernel
theorem dX3_readNumber_63 : decode cX3_readNumber 63 = .ok (.bipush 48, 2) := by decide +kernel
theorem dX3_readNumber_65 : decode cX3_readNumber 65 = .ok (.isub, 1) := by decide +kernel
theorem dX3_readNumber_66 : decode cX3_readNumber 66 = .ok (.goto 5, 3) := by decide +kernel
theorem dX3_readNumber_69 : decode cX3_readNumber 69 = .ok (.iload 4, 2) := by decide +kernel
theorem dX3_readNumber_71 : decode cX3_readNumber 71 = .ok (.istore 4, 2) := by decide +kernel
theorem dX3_readNumber_73 : decode cX3_readNumber 73 = .ok (.aload_n 0, 1) := by decide +kernel
theorem dX3_readNumber_74 : decode cX3_readNumber 74 = .ok (.dup, 1) := by decide +kernel
theorem dX3_readNumber_75 : decode cX3_readNumber 75 = .ok (.getfield 37, 3) := by decide +kernel
theorem dX3_readNumber_78 : decode cX3_readNumber 78 = .ok (.iconst 1, 1) := by decide +kernel
theorem dX3_readNumber_79 : decode cX3_readNumber 79 = .ok (.iadd, 1) := by decide +kernel
theorem dX3_readNumber_80 : decode cX3_readNumber 80 = .ok (.putfield 37, 3) := by decide +kernel
theorem dX3_readNumber_83 : decode cX3_readNumber 83 = .ok (.iinc 5 1, 3) := by decide +kernel
theorem dX3_readNumber_86 : decode cX3_readNumber 86 = .ok (.goto (-71), 3) := by decide +kernel
theorem dX3_readNumber_89 : decode cX3_readNumber 89 = .ok (.aload_n 0, 1) := by decide +kernel
theorem dX3_readNumber_90 : decode cX3_readNumber 90 = .ok (.getfield 37, 3) := by decide +kernel
theorem dX3_readNumber_93 : decode cX3_readNumber 93 = .ok (.iload_n 3, 1) := by decide +kernel
theorem dX3_readNumber_94 : decode cX3_readNumber 94 = .ok (.if_icmp .ne 12, 3) := by decide +kernel
theorem dX3_readNumber_97 : decode cX3_readNumber 97 = .ok (.aload_n 0, 1) := by decide +kernel
theorem dX3_readNumber_98 : decode cX3_readNumber 98 = .ok (.iconst 1, 1) := by decide +kernel
theorem dX3_readNumber_99 : decode cX3_readNumber 99 = .ok (.iload_n 3, 1) := by decide +kernel
theorem dX3_readNumber_100 : decode cX3_readNumber 100 = .ok (.invokevirtual 64, 3) := by decide +kernel
theorem dX3_readNumber_103 : decode cX3_readNumber 103 = .ok (.goto 31, 3) := by decide +kernel
theorem dX3_readNumber_106 : decode cX3_readNumber 106 = .ok (.aload_n 0, 1) := by decide +kernel
theorem dX3_readNumber_107 : decode cX3_readNumber 107 = .ok (.getfield 37, 3) := by decide +kernel
theorem dX3_readNumber_110 : decode cX3_readNumber 110 = .ok (.iload_n 3, 1) := by decide +kernel
theorem dX3_readNumber_111 : decode cX3_readNumber 111 = .ok (.isub, 1) := by decide +kernel
theorem dX3_readNumber_112 : decode cX3_readNumber 112 = .ok (.iconst 3, 1) := by decide +kernel
theorem dX3_readNumber_113 : decode cX3_readNumber 113 = .ok (.if_icmp .gt 15, 3) := by decide +kernel
theorem dX3_readNumber_116 : decode cX3_readNumber 116 = .ok (.iload 4, 2) := by decide +kernel
theorem dX3_readNumber_118 : decode cX3_readNumber 118 = .ok (.iload_n 1, 1) := by decide +kernel
theorem dX3_readNumber_119 : decode cX3_readNumber 119 = .ok (.if_icmp .lt 9, 3) := by decide +kernel
theorem dX3_readNumber_122 : decode cX3_readNumber 122 = .ok (.iload 4, 2) := by decide +kernel
theorem dX3_readNumber_124 : decode cX3_readNumber 124 = .ok (.iload_n 2, 1) := by decide +kernel
theorem dX3_readNumber_125 : decode cX3_readNumber 125 = .ok (.if_icmp .le 9, 3) := by decide +kernel
theorem dX3_readNumber_128 : decode cX3_readNumber 128 = .ok (.aload_n 0, 1) := by decide +kernel
theorem dX3_readNumber_129 : decode cX3_readNumber 129 = .ok (.iconst 2, 1) := by decide +kernel
theorem dX3_readNumber_130 : decode cX3_readNumber 130 = .ok (.iload_n 3, 1) := by decide +kernel
theorem dX3_readNumber_131 : decode cX3_readNumber 131 = .ok (.invokevirtual 64, 3) := by decide +kernel
theorem dX3_readNumber_134 : decode cX3_readNumber 134 = .ok (.iload 4, 2) := by decide +kernel
theorem dX3_readNumber_136 : decode cX3_readNumber 136 = .ok (.ireturn, 1) := by decide +kernel
theorem dX3_skipBlanks_0 : decode cX3_skipBlanks 0 = .ok (.iconst 0, 1) := by decide +kernel
theorem dX3_skipBlanks_1 : decode cX3_skipBlanks 1 = .ok (.istore_n 1, 1) := by decide +kernel
theorem dX3_skipBlanks_2 : decode cX3_skipBlanks 2 = .ok (.iload_n 1, 1) := by decide +kernel
theorem dX3_skipBlanks_3 : decode cX3_skipBlanks 3 = .ok (.sipush 250, 3) := by decide +kernel
theorem dX3_skipBlanks_6 : decode cX3_skipBlanks 6 = .ok (.if_icmp .ge 35, 3) := by decide +kernel
theorem dX3_skipBlanks_9 : decode cX3_skipBlanks 9 = .ok (.aload_n 0, 1) := by decide +kernel
theorem dX3_skipBlanks_10 : decode cX3_skipBlanks 10 = .ok (.getfield 14, 3) := by decide +kernel
theorem dX3_skipBlanks_13 : decode cX3_skipBlanks 13 = .ok (.aload_n 0, 1) := by decide +kernel
theorem dX3_skipBlanks_14 : decode cX3_skipBlanks 14 = .ok (.getfield 37, 3) := by decide +kernel
theorem dX3_skipBlanks_17 : decode cX3_skipBlanks 17 = .ok (.invokevirtual 57, 3) := by decide +kernel
theorem dX3_skipBlanks_20 : decode cX3_skipBlanks 20 = .ok (.bipush 32, 2) := by decide +kernel
theorem dX3_skipBlanks_22 : decode cX3_skipBlanks 22 = .ok (.if_icmp .ne 19, 3) := by decide +kernel
theorem dX3_skipBlanks_25 : decode cX3_skipBlanks 25 = .ok (.aload_n 0, 1) := by decide +kernel
theorem dX3_skipBlanks_26 : decode cX3_skipBlanks 26 = .ok (.dup, 1) := by decide +kernel
theorem dX3_skipBlanks_27 : decode cX3_skipBlanks 27 = .ok (.getfield 37, 3) := by decide +kernel
theorem dX3_skipBlanks_30 : decode cX3_skipBlanks 30 = .ok (.iconst 1, 1) := by decide +kernel
theorem dX3_skipBlanks_31 : decode cX3_skipBlanks 31 = .ok (.iadd, 1) := by decide +kernel
theorem dX3_skipBlanks_32 : decode cX3_skipBlanks 32 = .ok (.putfield 37, 3) := by decide +kernel
theorem dX3_skipBlanks_35 : decode cX3_skipBlanks 35 = .ok (.iinc 1 1, 3) := by decide +kernel
theorem dX3_skipBlanks_38 : decode cX3_skipBlanks 38 = .ok (.goto (-36), 3) := by decide +kernel
theorem dX3_skipBlanks_41 : decode cX3_skipBlanks 41 = .ok (.return_, 1) := by decide +kernel
theorem dX3_isFigure_0 : decode cX3_isFigure 0 = .ok (.iload_n 0, 1) := by decide +kernel
theorem dX3_isFigure_1 : decode cX3_isFigure 1 = .ok (.bipush 48, 2) := by decide +kernel
theorem dX3_isFigure_3 : decode cX3_isFigure 3 = .ok (.if_icmp .lt 13, 3) := by decide +kernel
theorem dX3_isFigure_6 : decode cX3_isFigure 6 = .ok (.iload_n 0, 1) := by decide +kernel
theorem dX3_isFigure_7 : decode cX3_isFigure 7 = .ok (.bipush 57, 2) := by decide +kernel
theorem dX3_isFigure_9 : decode cX3_isFigure 9 = .ok (.if_icmp .gt 7, 3) := by decide +kernel
theorem dX3_isFigure_12 : decode cX3_isFigure 12 = .ok (.iconst 1, 1) := by decide +kernel
theorem dX3_isFigure_13 : decode cX3_isFigure 13 = .ok (.goto 4, 3) := by decide +kernel
theorem dX3_isFigure_16 : decode cX3_isFigure 16 = .ok (.iconst 0, 1) := by decide +kernel
theorem dX3_isFigure_17 : decode cX3_isFigure 17 = .ok (.ireturn, 1) := by decide +kernel
theorem dX3_markFault_0 : decode cX3_markFault 0 = .ok (.aload_n 0, 1) := by decide +kernel
theorem dX3_markFault_1 : decode cX3_markFault 1 = .ok (.getfield 34, 3) := by decide +kernel
theorem dX3_markFault_4 : decode cX3_markFault 4 = .ok (.ifCond .ne 13, 3) := by decide +kernel
theorem dX3_markFault_7 : decode cX3_markFault 7 = .ok (.aload_n 0, 1) := by decide +kernel
theorem dX3_markFault_8 : decode cX3_markFault 8 = .ok (.iload_n 1, 1) := by decide +kernel
theorem dX3_markFault_9 : decode cX3_markFault 9 = .ok (.putfield 34, 3) := by decide +kernel
theorem dX3_markFault_12 : decode cX3_markFault 12 = .ok (.aload_n 0, 1) := by decide +kernel
theorem dX3_markFault_13 : decode cX3_markFault 13 = .ok (.iload_n 2, 1) := by decide +kernel
theorem dX3_markFault_14 : decode cX3_markFault 14 = .ok (.putfield 27, 3) := by decide +kernel
theorem dX3_markFault_17 : decode cX3_markFault 17 = .ok (.return_, 1) := by decide +kernel
theorem dX4_at_0 : decode cX4_at 0 = .ok (.iload_n 1, 1) := by decide +kernel
theorem dX4_at_1 : decode cX4_at 1 = .ok (.ifCond .lt 15, 3) := by decide +kernel
theorem dX4_at_4 : decode cX4_at 4 = .ok (.iload_n 1, 1) := by decide +kernel
theorem dX4_at_5 : decode cX4_at 5 = .ok (.aload_n 0, 1) := by decide +kernel
theorem dX4_at_6 : decode cX4_at 6 = .ok (.arraylength, 1) := by decide +kernel
theorem dX4_at_7 : decode cX4_at 7 = .ok (.if_icmp .ge 9, 3) := by decide +kernel
theorem dX4_at_10 : decode cX4_at 10 = .ok (.aload_n 0, 1) := by decide +kernel
theorem dX4_at_11 : decode cX4_at 11 = .ok (.iload_n 1, 1) := by decide +kernel
theorem dX4_at_12 : decode cX4_at 12 = .ok (.iaload, 1) := by decide +kernel
theorem dX4_at_13 : decode cX4_at 13 = .ok (.goto 4, 3) := by decide +kernel
theorem dX4_at_16 : decode cX4_at 16 = .ok (.iconst 0, 1) := by decide +kernel
theorem dX4_at_17 : decode cX4_at 17 = .ok (.ireturn, 1) := by decide +kernel
theorem dX4_put_0 : decode cX4_put 0 = .ok (.iload_n 1, 1) := by decide +kernel
theorem dX4_put_1 : decode cX4_put 1 = .ok (.ifCond .lt 13, 3) := by decide +kernel
theorem dX4_put_4 : decode cX4_put 4 = .ok (.iload_n 1, 1) := by decide +kernel
theorem dX4_put_5 : decode cX4_put 5 = .ok (.aload_n 0, 1) := by decide +kernel
theorem dX4_put_6 : decode cX4_put 6 = .ok (.arraylength, 1) := by decide +kernel
theorem dX4_put_7 : decode cX4_put 7 = .ok (.if_icmp .ge 7, 3) := by decide +kernel
theorem dX4_put_10 : decode cX4_put 10 = .ok (.aload_n 0, 1) := by decide +kernel
theorem dX4_put_11 : decode cX4_put 11 = .ok (.iload_n 1, 1) := by decide +kernel
theorem dX4_put_12 : decode cX4_put 12 = .ok (.iload_n 2, 1) := by decide +kernel
theorem dX4_put_13 : decode cX4_put 13 = .ok (.iastore, 1) := by decide +kernel
theorem dX4_put_14 : decode cX4_put 14 = .ok (.return_, 1) := by decide +kernel
theorem dX4_copy_0 : decode cX4_copy 0 = .ok (.iconst 0, 1) := by decide +kernel
theorem dX4_copy_1 : decode cX4_copy 1 = .ok (.istore_n 2, 1) := by decide +kernel
theorem dX4_copy_2 : decode cX4_copy 2 = .ok (.iload_n 2, 1) := by decide +kernel
theorem dX4_copy_3 : decode cX4_copy 3 = .ok (.aload_n 0, 1) := by decide +kernel
theorem dX4_copy_4 : decode cX4_copy 4 = .ok (.arraylength, 1) := by decide +kernel
theorem dX4_copy_5 : decode cX4_copy 5 = .ok (.if_icmp .ge 21, 3) := by decide +kernel
theorem dX4_copy_8 : decode cX4_copy 8 = .ok (.iload_n 2, 1) := by decide +kernel
theorem dX4_copy_9 : decode cX4_copy 9 = .ok (.aload_n 1, 1) := by decide +kernel
theorem dX4_copy_10 : decode cX4_copy 10 = .ok (.arraylength, 1) := by decide +kernel
theorem dX4_copy_11 : decode cX4_copy 11 = .ok (.if_icmp .ge 15, 3) := by decide +kernel
theorem dX4_copy_14 : decode cX4_copy 14 = .ok (.aload_n 1, 1) := by decide +kernel
theorem dX4_copy_15 : decode cX4_copy 15 = .ok (.iload_n 2, 1) := by decide +kernel
theorem dX4_copy_16 : decode cX4_copy 16 = .ok (.aload_n 0, 1) := by decide +kernel
theorem dX4_copy_17 : decode cX4_copy 17 = .ok (.iload_n 2, 1) := by decide +kernel
theorem dX4_copy_18 : decode cX4_copy 18 = .ok (.iaload, 1) := by decide +kernel
theorem dX4_copy_19 : decode cX4_copy 19 = .ok (.iastore, 1) := by decide +kernel
theorem dX4_copy_20 : decode cX4_copy 20 = .ok (.iinc 2 1, 3) := by decide +kernel
theorem dX4_copy_23 : decode cX4_copy 23 = .ok (.goto (-21), 3) := by decide +kernel
theorem dX4_copy_26 : decode cX4_copy 26 = .ok (.return_, 1) := by decide +kernel
theorem dX4_fill_0 : decode cX4_fill 0 = .ok (.iconst 0, 1) := by decide +kernel
theorem dX4_fill_1 : decode cX4_fill 1 = .ok (.istore_n 2, 1) := by decide +kernel
theorem dX4_fill_2 : decode cX4_fill 2 = .ok (.iload_n 2, 1) := by decide +kernel
theorem dX4_fill_3 : decode cX4_fill 3 = .ok (.aload_n 0, 1) := by decide +kernel
theorem dX4_fill_4 : decode cX4_fill 4 = .ok (.arraylength, 1) := by decide +kernel
theorem dX4_fill_5 : decode cX4_fill 5 = .ok (.if_icmp .ge 13, 3) := by decide +kernel
theorem dX4_fill_8 : decode cX4_fill 8 = .ok (.aload_n 0, 1) := by decide +kernel
theorem dX4_fill_9 : decode cX4_fill 9 = .ok (.iload_n 2, 1) := by decide +kernel
theorem dX4_fill_10 : decode cX4_fill 10 = .ok (.iload_n 1, 1) := by decide +kernel
theorem dX4_fill_11 : decode cX4_fill 11 = .ok (.iastore, 1) := by decide +kernel
theorem dX4_fill_12 : decode cX4_fill 12 = .ok (.iinc 2 1, 3) := by decide +kernel
theorem dX4_fill_15 : decode cX4_fill 15 = .ok (.goto (-13), 3) := by decide +kernel
theorem dX4_fill_18 : decode cX4_fill 18 = .ok (.return_, 1) := by decide +kernel
theorem dX5_init_0 : decode cX5_init 0 = .ok (.aload_n 0, 1) := by decide +kernel
theorem dX5_init_1 : decode cX5_init 1 = .ok (.invokespecial 3, 3) := by decide +kernel
theorem dX5_init_4 : decode cX5_init 4 = .ok (.aload_n 0, 1) := by decide +kernel
theorem dX5_init_5 : decode cX5_init 5 = .ok (.iconst 0, 1) := by decide +kernel
theorem dX5_init_6 : decode cX5_init 6 = .ok (.iload_n 1, 1) := by decide +kernel
theorem dX5_init_7 : decode cX5_init 7 = .ok (.invokestatic 9, 3) := by decide +kernel
theorem dX5_init_10 : decode cX5_init 10 = .ok (.newarray .int, 2) := by decide +kernel
theorem dX5_init_12 : decode cX5_init 12 = .ok (.putfield 15, 3) := by decide +kernel
theorem dX5_init_15 : decode cX5_init 15 = .ok (.return_, 1) := by decide +kernel
theorem dX5_add_0 : decode cX5_add 0 = .ok (.aload_n 0, 1) := by decide +kernel
theorem dX5_add_1 : decode cX5_add 1 = .ok (.getfield 21, 3) := by decide +kernel
theorem dX5_add_4 : decode cX5_add 4 = .ok (.aload_n 0, 1) := by decide +kernel
theorem dX5_add_5 : decode cX5_add 5 = .ok (.getfield 15, 3) := by decide +kernel
theorem dX5_add_8 : decode cX5_add 8 = .ok (.arraylength, 1) := by decide +kernel
theorem dX5_add_9 : decode cX5_add 9 = .ok (.if_icmp .lt 5, 3) := by decide +kernel
theorem dX5_add_12 : decode cX5_add 12 = .ok (.iconst 0, 1) := by decide +kernel
theorem dX5_add_13 : decode cX5_add 13 = .ok (.ireturn, 1) := by decide +kernel
theorem dX5_add_14 : decode cX5_add 14 = .ok (.aload_n 0, 1) := by decide +kernel
theorem dX5_add_15 : decode cX5_add 15 = .ok (.getfield 15, 3) := by decide +kernel
theorem dX5_add_18 : decode cX5_add 18 = .ok (.aload_n 0, 1) := by decide +kernel
theorem dX5_add_19 : decode cX5_add 19 = .ok (.getfield 21, 3) := by decide +kernel
theorem dX5_add_22 : decode cX5_add 22 = .ok (.iload_n 1, 1) := by decide +kernel
theorem dX5_add_23 : decode cX5_add 23 = .ok (.invokestatic 25, 3) := by decide +kernel
theorem dX5_add_26 : decode cX5_add 26 = .ok (.aload_n 0, 1) := by decide +kernel
theorem dX5_add_27 : decode cX5_add 27 = .ok (.dup, 1) := by decide +kernel
theorem dX5_add_28 : decode cX5_add 28 = .ok (.getfield 21, 3) := by decide +kernel
theorem dX5_add_31 : decode cX5_add 31 = .ok (.iconst 1, 1) := by decide +kernel
theorem dX5_add_32 : decode cX5_add 32 = .ok (.iadd, 1) := by decide +kernel
theorem dX5_add_33 : decode cX5_add 33 = .ok (.putfield 21, 3) := by decide +kernel
theorem dX5_add_36 : decode cX5_add 36 = .ok (.iconst 1, 1) := by decide +kernel
theorem dX5_add_37 : decode cX5_add 37 = .ok (.ireturn, 1) := by decide +kernel
theorem dX5_mark_0 : decode cX5_mark 0 = .ok (.iload_n 1, 1) := by decide +kernel
theorem dX5_mark_1 : decode cX5_mark 1 = .ok (.ifCond .lt 29, 3) := by decide +kernel
theorem dX5_mark_4 : decode cX5_mark 4 = .ok (.iload_n 1, 1) := by decide +kernel
theorem dX5_mark_5 : decode cX5_mark 5 = .ok (.aload_n 0, 1) := by decide +kernel
theorem dX5_mark_6 : decode cX5_mark 6 = .ok (.getfield 21, 3) := by decide +kernel
theorem dX5_mark_9 : decode cX5_mark 9 = .ok (.if_icmp .ge 21, 3) := by decide +kernel
theorem dX5_mark_12 : decode cX5_mark 12 = .ok (.iload_n 1, 1) := by decide +kernel
theorem dX5_mark_13 : decode cX5_mark 13 = .ok (.aload_n 0, 1) := by decide +kernel
theorem dX5_mark_14 : decode cX5_mark 14 = .ok (.getfield 15, 3) := by decide +kernel
theorem dX5_mark_17 : decode cX5_mark 17 = .ok (.arraylength, 1) := by decide +kernel
theorem dX5_mark_18 : decode cX5_mark 18 = .ok (.if_icmp .ge 12, 3) := by decide +kernel
theorem dX5_mark_21 : decode cX5_mark 21 = .ok (.aload_n 0, 1) := by decide +kernel
theorem dX5_mark_22 : decode cX5_mark 22 = .ok (.getfield 15, 3) := by decide +kernel
theorem dX5_mark_25 : decode cX5_mark 25 = .ok (.iload_n 1, 1) := by decide +kernel
theorem dX5_mark_26 : decode cX5_mark 26 = .ok (.iaload, 1) := by decide +kernel
theorem dX5_mark_27 : decode cX5_mark 27 = .ok (.goto 4, 3) := by decide +kernel
theorem dX5_mark_30 : decode cX5_mark 30 = .ok (.iconst (-1), 1) := by decide +kernel
theorem dX5_mark_31 : decode cX5_mark 31 = .ok (.ireturn, 1) := by decide +kernel
theorem dX5_clear_0 : decode cX5_clear 0 = .ok (.aload_n 0, 1) := by decide +kernel
theorem dX5_clear_1 : decode cX5_clear 1 = .ok (.iconst 0, 1) := by decide +kernel
theorem dX5_clear_2 : decode cX5_clear 2 = .ok (.putfield 21, 3) := by decide +kernel
theorem dX5_clear_5 : decode cX5_clear 5 = .ok (.return_, 1) := by decide +kernel
theorem dX6_init_0 : decode cX6_init 0 = .ok (.aload_n 0, 1) := by decide +kernel
theorem dX6_init_1 : decode cX6_init 1 = .ok (.invokespecial 3, 3) := by decide +kernel
theorem dX6_init_4 : decode cX6_init 4 = .ok (.aload_n 0, 1) := by decide +kernel
theorem dX6_init_5 : decode cX6_init 5 = .ok (.new 9, 3) := by decide +kernel
theorem dX6_init_8 : decode cX6_init 8 = .ok (.dup, 1) := by decide +kernel
theorem dX6_init_9 : decode cX6_init 9 = .ok (.invokespecial 11, 3) := by decide +kernel
theorem dX6_init_12 : decode cX6_init 12 = .ok (.putfield 12, 3) := by decide +kernel
theorem dX6_init_15 : decode cX6_init 15 = .ok (.aload_n 0, 1) := by decide +kernel
theorem dX6_init_16 : decode cX6_init 16 = .ok (.new 9, 3) := by decide +kernel
theorem dX6_init_19 : decode cX6_init 19 = .ok (.dup, 1) := by decide +kernel
theorem dX6_init_20 : decode cX6_init 20 = .ok (.invokespecial 11, 3) := by decide +kernel
theorem dX6_init_23 : decode cX6_init 23 = .ok (.putfield 18, 3) := by decide +kernel
theorem dX6_init_26 : decode cX6_init 26 = .ok (.return_, 1) := by decide +kernel
theorem dX6_strokesFrom_0 : decode cX6_strokesFrom 0 = .ok (.aload_n 0, 1) := by decide +kernel
theorem dX6_strokesFrom_1 : decode cX6_strokesFrom 1 = .ok (.getfield 12, 3) := by decide +kernel
theorem dX6_strokesFrom_4 : decode cX6_strokesFrom 4 = .ok (.aload_n 2, 1) := by decide +kernel
theorem dX6_strokesFrom_5 : decode cX6_strokesFrom 5 = .ok (.invokevirtual 21, 3) := by decide +kernel
theorem dX6_strokesFrom_8 : decode cX6_strokesFrom 8 = .ok (.aload_n 0, 1) := by decide +kernel
theorem dX6_strokesFrom_9 : decode cX6_strokesFrom 9 = .ok (.aload_n 1, 1) := by decide +kernel
theorem dX6_strokesFrom_10 : decode cX6_strokesFrom 10 = .ok (.aload_n 0, 1) := by decide +kernel
theorem dX6_strokesFrom_11 : decode cX6_strokesFrom 11 = .ok (.getfield 12, 3) := by decide +kernel
theorem dX6_strokesFrom_14 : decode cX6_strokesFrom 14 = .ok (.sipush 999, 3) := by decide +kernel
theorem dX6_strokesFrom_17 : decode cX6_strokesFrom 17 = .ok (.invokevirtual 25, 3) := by decide +kernel
theorem dX6_strokesFrom_20 : decode cX6_strokesFrom 20 = .ok (.ireturn, 1) := by decide +kernel
theorem dX6_strokesFresh_0 : decode cX6_strokesFresh 0 = .ok (.aload_n 0, 1) := by decide +kernel
theorem dX6_strokesFresh_1 : decode cX6_strokesFresh 1 = .ok (.aload_n 1, 1) := by decide +kernel
theorem dX6_strokesFresh_2 : decode cX6_strokesFresh 2 = .ok (.aload_n 2, 1) := by decide +kernel
theorem dX6_strokesFresh_3 : decode cX6_strokesFresh 3 = .ok (.iload_n 3, 1) := by decide +kernel
theorem dX6_strokesFresh_4 : decode cX6_strokesFresh 4 = .ok (.iload 4, 2) := by decide +kernel
theorem dX6_strokesFresh_6 : decode cX6_strokesFresh 6 = .ok (.invokevirtual 29, 3) := by decide +kernel
theorem dX6_strokesFresh_9 : decode cX6_strokesFresh 9 = .ok (.aload_n 0, 1) := by decide +kernel
theorem dX6_strokesFresh_10 : decode cX6_strokesFresh 10 = .ok (.aload_n 1, 1) := by decide +kernel
theorem dX6_strokesFresh_11 : decode cX6_strokesFresh 11 = .ok (.aload_n 0, 1) := by decide +kernel
theorem dX6_strokesFresh_12 : decode cX6_strokesFresh 12 = .ok (.getfield 12, 3) := by decide +kernel
theorem dX6_strokesFresh_15 : decode cX6_strokesFresh 15 = .ok (.sipush 999, 3) := by decide +kernel
theorem dX6_strokesFresh_18 : decode cX6_strokesFresh 18 = .ok (.invokevirtual 25, 3) := by decide +kernel
theorem dX6_strokesFresh_21 : decode cX6_strokesFresh 21 = .ok (.ireturn, 1) := by decide +kernel
theorem dX6_begin_0 : decode cX6_begin 0 = .ok (.aload_n 0, 1) := by decide +kernel
theorem dX6_begin_1 : decode cX6_begin 1 = .ok (.getfield 12, 3) := by decide +kernel
theorem dX6_begin_4 : decode cX6_begin 4 = .ok (.aload_n 2, 1) := by decide +kernel
theorem dX6_begin_5 : decode cX6_begin 5 = .ok (.invokevirtual 21, 3) := by decide +kernel
theorem dX6_begin_8 : decode cX6_begin 8 = .ok (.aload_n 0, 1) := by decide +kernel
theorem dX6_begin_9 : decode cX6_begin 9 = .ok (.getfield 12, 3) := by decide +kernel
theorem dX6_begin_12 : decode cX6_begin 12 = .ok (.iload_n 3, 1) := by decide +kernel
theorem dX6_begin_13 : decode cX6_begin 13 = .ok (.iload 4, 2) := by decide +kernel
theorem dX6_begin_15 : decode cX6_begin 15 = .ok (.invokevirtual 33, 3) := by decide +kernel
theorem dX6_begin_18 : decode cX6_begin 18 = .ok (.aload_n 1, 1) := by decide +kernel
theorem dX6_begin_19 : decode cX6_begin 19 = .ok (.getfield 37, 3) := by decide +kernel
theorem dX6_begin_22 : decode cX6_begin 22 = .ok (.aload_n 0, 1) := by decide +kernel
theorem dX6_begin_23 : decode cX6_begin 23 = .ok (.getfield 12, 3) := by decide +kernel
theorem dX6_begin_26 : decode cX6_begin 26 = .ok (.getfield 43, 3) := by decide +kernel
theorem dX6_begin_29 : decode cX6_begin 29 = .ok (.invokestatic 46, 3) := by decide +kernel
theorem dX6_begin_32 : decode cX6_begin 32 = .ok (.return_, 1) := by decide +kernel
theorem dX6_strokesThrough_0 : decode cX6_strokesThrough 0 = .ok (.iconst 0, 1) := by decide +kernel
theorem dX6_strokesThrough_1 : decode cX6_strokesThrough 1 = .ok (.istore 4, 2) := by decide +kernel
theorem dX6_strokesThrough_3 : decode cX6_strokesThrough 3 = .ok (.iconst 0, 1) := by decide +kernel
theorem dX6_strokesThrough_4 : decode cX6_strokesThrough 4 = .ok (.istore 5, 2) := by decide +kernel
theorem dX6_strokesThrough_6 : decode cX6_strokesThrough 6 = .ok (.iload 4, 2) := by decide +kernel
theorem dX6_strokesThrough_8 : decode cX6_strokesThrough 8 = .ok (.iload_n 3, 1) := by decide +kernel
theorem dX6_strokesThrough_9 : decode cX6_strokesThrough 9 = .ok (.if_icmp .ge 67, 3) := by decide +kernel
theorem dX6_strokesThrough_12 : decode cX6_strokesThrough 12 = .ok (.aload_n 2, 1) := by decide +kernel
theorem dX6_strokesThrough_13 : decode cX6_strokesThrough 13 = .ok (.aload_n 1, 1) := by decide +kernel
theorem dX6_strokesThrough_14 : decode cX6_strokesThrough 14 = .ok (.invokevirtual 52, 3) := by decide +kernel
theorem dX6_strokesThrough_17 : decode cX6_strokesThrough 17 = .ok (.ifCond .ne 59, 3) := by decide +kernel
theorem dX6_strokesThrough_20 : decode cX6_strokesThrough 20 = .ok (.aload_n 2, 1) := by decide +kernel
theorem dX6_strokesThrough_21 : decode cX6_strokesThrough 21 = .ok (.aload_n 1, 1) := by decide +kernel
theorem dX6_strokesThrough_22 : decode cX6_strokesThrough 22 = .ok (.invokevirtual 56, 3) := by decide +kernel
theorem dX6_strokesThrough_25 : decode cX6_strokesThrough 25 = .ok (.ifCond .le 7, 3) := by decide +kernel
theorem dX6_strokesThrough_28 : decode cX6_strokesThrough 28 = .ok (.iconst 0, 1) := by decide +kernel
theorem dX6_strokesThrough_29 : decode cX6_strokesThrough 29 = .ok (.goto 7, 3) := by decide +kernel
theorem dX6_strokesThrough_32 : decode cX6_strokesThrough 32 = .ok (.iload 5, 2) := by decide +kernel
theorem dX6_strokesThrough_34 : decode cX6_strokesThrough 34 = .ok (.iconst 1, 1) := by decide +kernel
theorem dX6_strokesThrough_35 : decode cX6_strokesThrough 35 = .ok (.iadd, 1) := by decide +kernel
theorem dX6_strokesThrough_36 : decode cX6_strokesThrough 36 = .ok (.istore 5, 2) := by decide +kernel
theorem dX6_strokesThrough_38 : decode cX6_strokesThrough 38 = .ok (.iinc 4 1, 3) := by decide +kernel
theorem dX6_strokesThrough_41 : decode cX6_strokesThrough 41 = .ok (.iload 5, 2) := by decide +kernel
theorem dX6_strokesThrough_43 : decode cX6_strokesThrough 43 = .ok (.iconst 3, 1) := by decide +kernel
theorem dX6_strokesThrough_44 : decode cX6_strokesThrough 44 = .ok (.if_icmp .ne 18, 3) := by decide +kernel
theorem dX6_strokesThrough_47 : decode cX6_strokesThrough 47 = .ok (.aload_n 0, 1) := by decide +kernel
theorem dX6_strokesThrough_48 : decode cX6_strokesThrough 48 = .ok (.aload_n 2, 1) := by decide +kernel
theorem dX6_strokesThrough_49 : decode cX6_strokesThrough 49 = .ok (.invokevirtual 60, 3) := by decide +kernel
theorem dX6_strokesThrough_52 : decode cX6_strokesThrough 52 = .ok (.ifCond .eq 7, 3) := by decide +kernel
theorem dX6_strokesThrough_55 : decode cX6_strokesThrough 55 = .ok (.sipush 1000, 3) := by decide +kernel
theorem dX6_strokesThrough_58 : decode cX6_strokesThrough 58 = .ok (.ireturn, 1) := by decide +kernel
theorem dX6_strokesThrough_59 : decode cX6_strokesThrough 59 = .ok (.iconst 1, 1) := by decide +kernel
theorem dX6_strokesThrough_60 : decode cX6_strokesThrough 60 = .ok (.istore 5, 2) := by decide +kernel
theorem dX6_strokesThrough_62 : decode cX6_strokesThrough 62 = .ok (.iload 5, 2) := by decide +kernel
theorem dX6_strokesThrough_64 : decode cX6_strokesThrough 64 = .ok (.iconst 1, 1) := by decide +kernel
theorem dX6_strokesThrough_65 : decode cX6_strokesThrough 65 = .ok (.if_icmp .ne (-59), 3) := by decide +kernel
theorem dX6_strokesThrough_68 : decode cX6_strokesThrough 68 = .ok (.aload_n 0, 1) := by decide +kernel
theorem dX6_strokesThrough_69 : decode cX6_strokesThrough 69 = .ok (.aload_n 2, 1) := by decide +kernel
theorem dX6_strokesThrough_70 : decode cX6_strokesThrough 70 = .ok (.invokevirtual 64, 3) := by decide +kernel
theorem dX6_strokesThrough_73 : decode cX6_strokesThrough 73 = .ok (.goto (-67), 3) := by decide +kernel
theorem dX6_strokesThrough_76 : decode cX6_strokesThrough 76 = .ok (.aload_n 2, 1) := by decide +kernel
theorem dX6_strokesThrough_77 : decode cX6_strokesThrough 77 = .ok (.aload_n 1, 1) := by decide +kernel
theorem dX6_strokesThrough_78 : decode cX6_strokesThrough 78 = .ok (.invokevirtual 52, 3) := by decide +kernel
theorem dX6_strokesThrough_81 : decode cX6_strokesThrough 81 = .ok (.ifCond .eq 8, 3) := by decide +kernel
theorem dX6_strokesThrough_84 : decode cX6_strokesThrough 84 = .ok (.iload 4, 2) := by decide +kernel
theorem dX6_strokesThrough_86 : decode cX6_strokesThrough 86 = .ok (.goto 6, 3) := by decide +kernel
theorem dX6_strokesThrough_89 : decode cX6_strokesThrough 89 = .ok (.sipush 1000, 3) := by decide +kernel
theorem dX6_strokesThrough_92 : decode cX6_strokesThrough 92 = .ok (.ireturn, 1) := by decide +kernel
theorem dX6_rememberPair_0 : decode cX6_rememberPair 0 = .ok (.aload_n 0, 1) := by decide +kernel
theorem dX6_rememberPair_1 : decode cX6_rememberPair 1 = .ok (.aload_n 1, 1) := by decide +kernel
theorem dX6_rememberPair_2 : decode cX6_rememberPair 2 = .ok (.getfield 67, 3) := by decide +kernel
theorem dX6_rememberPair_5 : decode cX6_rememberPair 5 = .ok (.aload_n 1, 1) := by decide +kernel
theorem dX6_rememberPair_6 : decode cX6_rememberPair 6 = .ok (.getfield 70, 3) := by decide +kernel
theorem dX6_rememberPair_9 : decode cX6_rememberPair 9 = .ok (.invokestatic 74, 3) := by decide +kernel
theorem dX6_rememberPair_12 : decode cX6_rememberPair 12 = .ok (.putfield 78, 3) := by decide +kernel
theorem dX6_rememberPair_15 : decode cX6_rememberPair 15 = .ok (.aload_n 0, 1) := by decide +kernel
theorem dX6_rememberPair_16 : decode cX6_rememberPair 16 = .ok (.aload_n 1, 1) := by decide +kernel
theorem dX6_rememberPair_17 : decode cX6_rememberPair 17 = .ok (.getfield 67, 3) := by decide +kernel
theorem dX6_rememberPair_20 : decode cX6_rememberPair 20 = .ok (.aload_n 1, 1) := by decide +kernel
theorem dX6_rememberPair_21 : decode cX6_rememberPair 21 = .ok (.getfield 81, 3) := by decide +kernel
theorem dX6_rememberPair_24 : decode cX6_rememberPair 24 = .ok (.invokestatic 74, 3) := by decide +kernel
theorem dX6_rememberPair_27 : decode cX6_rememberPair 27 = .ok (.putfield 84, 3) := by decide +kernel
theorem dX6_rememberPair_30 : decode cX6_rememberPair 30 = .ok (.aload_n 0, 1) := by decide +kernel
theorem dX6_rememberPair_31 : decode cX6_rememberPair 31 = .ok (.aload_n 1, 1) := by decide +kernel
theorem dX6_rememberPair_32 : decode cX6_rememberPair 32 = .ok (.getfield 87, 3) := by decide +kernel
theorem dX6_rememberPair_35 : decode cX6_rememberPair 35 = .ok (.aload_n 1, 1) := by decide +kernel
theorem dX6_rememberPair_36 : decode cX6_rememberPair 36 = .ok (.getfield 70, 3) := by decide +kernel
theorem dX6_rememberPair_39 : decode cX6_rememberPair 39 = .ok (.invokestatic 74, 3) := by decide +kernel
theorem dX6_rememberPair_42 : decode cX6_rememberPair 42 = .ok (.putfield 90, 3) := by decide +kernel
theorem dX6_rememberPair_45 : decode cX6_rememberPair 45 = .ok (.aload_n 0, 1) := by decide +kernel
theorem dX6_rememberPair_46 : decode cX6_rememberPair 46 = .ok (.aload_n 1, 1) := by decide +kernel
theorem dX6_rememberPair_47 : decode cX6_rememberPair 47 = .ok (.getfield 87, 3) := by decide +kernel
theorem dX6_rememberPair_50 : decode cX6_rememberPair 50 = .ok (.aload_n 1, 1) := by decide +kernel
theorem dX6_rememberPair_51 : decode cX6_rememberPair 51 = .ok (.getfield 81, 3) := by decide +kernel
theorem dX6_rememberPair_54 : decode cX6_rememberPair 54 = .ok (.invokestatic 74, 3) := by decide +kernel
theorem dX6_rememberPair_57 : decode cX6_rememberPair 57 = .ok (.putfield 93, 3) := by decide +kernel
theorem dX6_rememberPair_60 : decode cX6_rememberPair 60 = .ok (.return_, 1) := by decide +kernel
theorem dX6_isNoFresher_0 : decode cX6_isNoFresher 0 = .ok (.aload_n 1, 1) := by decide +kernel
theorem dX6_isNoFresher_1 : decode cX6_isNoFresher 1 = .ok (.getfield 67, 3) := by decide +kernel
theorem dX6_isNoFresher_4 : decode cX6_isNoFresher 4 = .ok (.aload_n 1, 1) := by decide +kernel
theorem dX6_isNoFresher_5 : decode cX6_isNoFresher 5 = .ok (.getfield 70, 3) := by decide +kernel
theorem dX6_isNoFresher_8 : decode cX6_isNoFresher 8 = .ok (.invokestatic 74, 3) := by decide +kernel
theorem dX6_isNoFresher_11 : decode cX6_isNoFresher 11 = .ok (.aload_n 0, 1) := by decide +kernel
theorem dX6_isNoFresher_12 : decode cX6_isNoFresher 12 = .ok (.getfield 78, 3) := by decide +kernel
theorem dX6_isNoFresher_15 : decode cX6_isNoFresher 15 = .ok (.if_icmp .lt 61, 3) := by decide +kernel
theorem dX6_isNoFresher_18 : decode cX6_isNoFresher 18 = .ok (.aload_n 1, 1) := by decide +kernel
theorem dX6_isNoFresher_19 : decode cX6_isNoFresher 19 = .ok (.getfield 67, 3) := by decide +kernel
theorem dX6_isNoFresher_22 : decode cX6_isNoFresher 22 = .ok (.aload_n 1, 1) := by decide +kernel
theorem dX6_isNoFresher_23 : decode cX6_isNoFresher 23 = .ok (.getfield 81, 3) := by decide +kernel
theorem dX6_isNoFresher_26 : decode cX6_isNoFresher 26 = .ok (.invokestatic 74, 3) := by decide +kernel
theorem dX6_isNoFresher_29 : decode cX6_isNoFresher 29 = .ok (.aload_n 0, 1) := by decide +kernel
theorem dX6_isNoFresher_30 : decode cX6_isNoFresher 30 = .ok (.getfield 84, 3) := by decide +kernel
theorem dX6_isNoFresher_33 : decode cX6_isNoFresher 33 = .ok (.if_icmp .lt 43, 3) := by decide +kernel
theorem dX6_isNoFresher_36 : decode cX6_isNoFresher 36 = .ok (.aload_n 1, 1) := by decide +kernel
theorem dX6_isNoFresher_37 : decode cX6_isNoFresher 37 = .ok (.getfield 87, 3) := by decide +kernel
theorem dX6_isNoFresher_40 : decode cX6_isNoFresher 40 = .ok (.aload_n 1, 1) := by decide +kernel
theorem dX6_isNoFresher_41 : decode cX6_isNoFresher 41 = .ok (.getfield 70, 3) := by decide +kernel
theorem dX6_isNoFresher_44 : decode cX6_isNoFresher 44 = .ok (.invokestatic 74, 3) := by decide +kernel
theorem dX6_isNoFresher_47 : decode cX6_isNoFresher 47 = .ok (.aload_n 0, 1) := by decide +kernel
theorem dX6_isNoFresher_48 : decode cX6_isNoFresher 48 = .ok (.getfield 90, 3) := by decide +kernel
theorem dX6_isNoFresher_51 : decode cX6_isNoFresher 51 = .ok (.if_icmp .ne 25, 3) := by decide +kernel
theorem dX6_isNoFresher_54 : decode cX6_isNoFresher 54 = .ok (.aload_n 1, 1) := by decide +kernel
theorem dX6_isNoFresher_55 : decode cX6_isNoFresher 55 = .ok (.getfield 87, 3) := by decide +kernel
theorem dX6_isNoFresher_58 : decode cX6_isNoFresher 58 = .ok (.aload_n 1, 1) := by decide +kernel
theorem dX6_isNoFresher_59 : decode cX6_isNoFresher 59 = .ok (.getfield 81, 3) := by decide +kernel
theorem dX6_isNoFresher_62 : decode cX6_isNoFresher 62 = .ok (.invokestatic 74, 3) := by decide +kernel
theorem dX6_isNoFresher_65 : decode cX6_isNoFresher 65 = .ok (.aload_n 0, 1) := by decide +kernel
theorem dX6_isNoFresher_66 : decode cX6_isNoFresher 66 = .ok (.getfield 93, 3) := by decide +kernel
theorem dX6_isNoFresher_69 : decode cX6_isNoFresher 69 = .ok (.if_icmp .ne 7, 3) := by decide +kernel
theorem dX6_isNoFresher_72 : decode cX6_isNoFresher 72 = .ok (.iconst 1, 1) := by decide +kernel
theorem dX6_isNoFresher_73 : decode cX6_isNoFresher 73 = .ok (.goto 4, 3) := by decide +kernel
theorem dX6_isNoFresher_76 : decode cX6_isNoFresher 76 = .ok (.iconst 0, 1) := by decide +kernel
theorem dX6_isNoFresher_77 : decode cX6_isNoFresher 77 = .ok (.ireturn, 1) := by decide +kernel
theorem dX6_findWishes_0 : decode cX6_findWishes 0 = .ok (.aload_n 0, 1) := by decide +kernel
theorem dX6_findWishes_1 : decode cX6_findWishes 1 = .ok (.sipush 1000, 3) := by decide +kernel
theorem dX6_findWishes_4 : decode cX6_findWishes 4 = .ok (.putfield 96, 3) := by decide +kernel
theorem dX6_findWishes_7 : decode cX6_findWishes 7 = .ok (.aload_n 0, 1) := by decide +kernel
theorem dX6_findWishes_8 : decode cX6_findWishes 8 = .ok (.iconst (-1), 1) := by decide +kernel
theorem dX6_findWishes_9 : decode cX6_findWishes 9 = .ok (.putfield 99, 3) := by decide +kernel
theorem dX6_findWishes_12 : decode cX6_findWishes 12 = .ok (.aload_n 0, 1) := by decide +kernel
theorem dX6_findWishes_13 : decode cX6_findWishes 13 = .ok (.iconst (-1), 1) := by decide +kernel
theorem dX6_findWishes_14 : decode cX6_findWishes 14 = .ok (.putfield 102, 3) := by decide +kernel
theorem dX6_findWishes_17 : decode cX6_findWishes 17 = .ok (.bipush 20, 2) := by decide +kernel
theorem dX6_findWishes_19 : decode cX6_findWishes 19 = .ok (.aload_n 1, 1) := by decide +kernel
theorem dX6_findWishes_20 : decode cX6_findWishes 20 = .ok (.getfield 37, 3) := by decide +kernel
theorem dX6_findWishes_23 : decode cX6_findWishes 23 = .ok (.iload_n 3, 1) := by decide +kernel
theorem dX6_findWishes_24 : decode cX6_findWishes 24 = .ok (.invokestatic 74, 3) := by decide +kernel
theorem dX6_findWishes_27 : decode cX6_findWishes 27 = .ok (.invokestatic 105, 3) := by decide +kernel
theorem dX6_findWishes_30 : decode cX6_findWishes 30 = .ok (.istore 5, 2) := by decide +kernel
theorem dX6_findWishes_32 : decode cX6_findWishes 32 = .ok (.bipush 20, 2) := by decide +kernel
theorem dX6_findWishes_34 : decode cX6_findWishes 34 = .ok (.aload_n 1, 1) := by decide +kernel
theorem dX6_findWishes_35 : decode cX6_findWishes 35 = .ok (.getfield 37, 3) := by decide +kernel
theorem dX6_findWishes_38 : decode cX6_findWishes 38 = .ok (.iload 4, 2) := by decide +kernel
theorem dX6_findWishes_40 : decode cX6_findWishes 40 = .ok (.invokestatic 74, 3) := by decide +kernel
theorem dX6_findWishes_43 : decode cX6_findWishes 43 = .ok (.invokestatic 105, 3) := by decide +kernel
theorem dX6_findWishes_46 : decode cX6_findWishes 46 = .ok (.istore 6, 2) := by decide +kernel
theorem dX6_findWishes_48 : decode cX6_findWishes 48 = .ok (.iconst 1, 1) := by decide +kernel
theorem dX6_findWishes_49 : decode cX6_findWishes 49 = .ok (.istore 7, 2) := by decide +kernel
theorem dX6_findWishes_51 : decode cX6_findWishes 51 = .ok (.iload 7, 2) := by decide +kernel
theorem dX6_findWishes_53 : decode cX6_findWishes 53 = .ok (.iload 5, 2) := by decide +kernel
theorem dX6_findWishes_55 : decode cX6_findWishes 55 = .ok (.if_icmp .gt 105, 3) := by decide +kernel
theorem dX6_findWishes_58 : decode cX6_findWishes 58 = .ok (.iconst 1, 1) := by decide +kernel
theorem dX6_findWishes_59 : decode cX6_findWishes 59 = .ok (.istore 8, 2) := by decide +kernel
theorem dX6_findWishes_61 : decode cX6_findWishes 61 = .ok (.iload 8, 2) := by decide +kernel
theorem dX6_findWishes_63 : decode cX6_findWishes 63 = .ok (.iload 6, 2) := by decide +kernel
theorem dX6_findWishes_65 : decode cX6_findWishes 65 = .ok (.if_icmp .gt 89, 3) := by decide +kernel
theorem dX6_findWishes_68 : decode cX6_findWishes 68 = .ok (.aload_n 0, 1) := by decide +kernel
theorem dX6_findWishes_69 : decode cX6_findWishes 69 = .ok (.aload_n 1, 1) := by decide +kernel
theorem dX6_findWishes_70 : decode cX6_findWishes 70 = .ok (.aload_n 2, 1) := by decide +kernel
theorem dX6_findWishes_71 : decode cX6_findWishes 71 = .ok (.iload_n 3, 1) := by decide +kernel
theorem dX6_findWishes_72 : decode cX6_findWishes 72 = .ok (.iload 4, 2) := by decide +kernel
theorem dX6_findWishes_74 : decode cX6_findWishes 74 = .ok (.invokevirtual 29, 3) := by decide +kernel
theorem dX6_findWishes_77 : decode cX6_findWishes 77 = .ok (.aload_n 0, 1) := by decide +kernel
theorem dX6_findWishes_78 : decode cX6_findWishes 78 = .ok (.getfield 12, 3) := by decide +kernel
theorem dX6_findWishes_81 : decode cX6_findWishes 81 = .ok (.getfield 43, 3) := by decide +kernel
theorem dX6_findWishes_84 : decode cX6_findWishes 84 = .ok (.iload_n 3, 1) := by decide +kernel
theorem dX6_findWishes_85 : decode cX6_findWishes 85 = .ok (.iload 7, 2) := by decide +kernel
theorem dX6_findWishes_87 : decode cX6_findWishes 87 = .ok (.invokestatic 111, 3) := by decide +kernel
theorem dX6_findWishes_90 : decode cX6_findWishes 90 = .ok (.aload_n 0, 1) := by decide +kernel
theorem dX6_findWishes_91 : decode cX6_findWishes 91 = .ok (.getfield 12, 3) := by decide +kernel
theorem dX6_findWishes_94 : decode cX6_findWishes 94 = .ok (.getfield 43, 3) := by decide +kernel
theorem dX6_findWishes_97 : decode cX6_findWishes 97 = .ok (.iload 4, 2) := by decide +kernel
theorem dX6_findWishes_99 : decode cX6_findWishes 99 = .ok (.iload 8, 2) := by decide +kernel
theorem dX6_findWishes_101 : decode cX6_findWishes 101 = .ok (.invokestatic 111, 3) := by decide +kernel
theorem dX6_findWishes_104 : decode cX6_findWishes 104 = .ok (.aload_n 0, 1) := by decide +kernel
theorem dX6_findWishes_105 : decode cX6_findWishes 105 = .ok (.aload_n 1, 1) := by decide +kernel
theorem dX6_findWishes_106 : decode cX6_findWishes 106 = .ok (.aload_n 0, 1) := by decide +kernel
theorem dX6_findWishes_107 : decode cX6_findWishes 107 = .ok (.getfield 12, 3) := by decide +kernel
theorem dX6_findWishes_110 : decode cX6_findWishes 110 = .ok (.aload_n 0, 1) := by decide +kernel
theorem dX6_findWishes_111 : decode cX6_findWishes 111 = .ok (.getfield 96, 3) := by decide +kernel
theorem dX6_findWishes_114 : decode cX6_findWishes 114 = .ok (.iconst 1, 1) := by decide +kernel
theorem dX6_findWishes_115 : decode cX6_findWishes 115 = .ok (.isub, 1) := by decide +kernel
theorem dX6_findWishes_116 : decode cX6_findWishes 116 = .ok (.invokevirtual 25, 3) := by decide +kernel
theorem dX6_findWishes_119 : decode cX6_findWishes 119 = .ok (.istore 9, 2) := by decide +kernel
theorem dX6_findWishes_121 : decode cX6_findWishes 121 = .ok (.iload 9, 2) := by decide +kernel
theorem dX6_findWishes_123 : decode cX6_findWishes 123 = .ok (.aload_n 0, 1) := by decide +kernel
theorem dX6_findWishes_124 : decode cX6_findWishes 124 = .ok (.getfield 96, 3) := by decide +kernel
theorem dX6_findWishes_127 : decode cX6_findWishes 127 = .ok (.if_icmp .ge 21, 3) := by decide +kernel
theorem dX6_findWishes_130 : decode cX6_findWishes 130 = .ok (.aload_n 0, 1) := by decide +kernel
theorem dX6_findWishes_131 : decode cX6_findWishes 131 = .ok (.iload 9, 2) := by decide +kernel
theorem dX6_findWishes_133 : decode cX6_findWishes 133 = .ok (.putfield 96, 3) := by decide +kernel
theorem dX6_findWishes_136 : decode cX6_findWishes 136 = .ok (.aload_n 0, 1) := by decide +kernel
theorem dX6_findWishes_137 : decode cX6_findWishes 137 = .ok (.iload 7, 2) := by decide +kernel
theorem dX6_findWishes_139 : decode cX6_findWishes 139 = .ok (.putfield 99, 3) := by decide +kernel
theorem dX6_findWishes_142 : decode cX6_findWishes 142 = .ok (.aload_n 0, 1) := by decide +kernel
theorem dX6_findWishes_143 : decode cX6_findWishes 143 = .ok (.iload 8, 2) := by decide +kernel
theorem dX6_findWishes_145 : decode cX6_findWishes 145 = .ok (.putfield 102, 3) := by decide +kernel
theorem dX6_findWishes_148 : decode cX6_findWishes 148 = .ok (.iinc 8 1, 3) := by decide +kernel
theorem dX6_findWishes_151 : decode cX6_findWishes 151 = .ok (.goto (-90), 3) := by decide +kernel
theorem dX6_findWishes_154 : decode cX6_findWishes 154 = .ok (.iinc 7 1, 3) := by decide +kernel
theorem dX6_findWishes_157 : decode cX6_findWishes 157 = .ok (.goto (-106), 3) := by decide +kernel
theorem dX6_findWishes_160 : decode cX6_findWishes 160 = .ok (.return_, 1) := by decide +kernel
theorem dX6_quarrelStroke_0 : decode cX6_quarrelStroke 0 = .ok (.aload_n 0, 1) := by decide +kernel
theorem dX6_quarrelStroke_1 : decode cX6_quarrelStroke 1 = .ok (.aload_n 1, 1) := by decide +kernel
theorem dX6_quarrelStroke_2 : decode cX6_quarrelStroke 2 = .ok (.aload_n 2, 1) := by decide +kernel
theorem dX6_quarrelStroke_3 : decode cX6_quarrelStroke 3 = .ok (.iload_n 3, 1) := by decide +kernel
theorem dX6_quarrelStroke_4 : decode cX6_quarrelStroke 4 = .ok (.iload 4, 2) := by decide +kernel
theorem dX6_quarrelStroke_6 : decode cX6_quarrelStroke 6 = .ok (.invokevirtual 29, 3) := by decide +kernel
theorem dX6_quarrelStroke_9 : decode cX6_quarrelStroke 9 = .ok (.iconst 1, 1) := by decide +kernel
theorem dX6_quarrelStroke_10 : decode cX6_quarrelStroke 10 = .ok (.istore 5, 2) := by decide +kernel
theorem dX6_quarrelStroke_12 : decode cX6_quarrelStroke 12 = .ok (.iload 5, 2) := by decide +kernel
theorem dX6_quarrelStroke_14 : decode cX6_quarrelStroke 14 = .ok (.bipush 99, 2) := by decide +kernel
theorem dX6_quarrelStroke_16 : decode cX6_quarrelStroke 16 = .ok (.if_icmp .gt 42, 3) := by decide +kernel
theorem dX6_quarrelStroke_19 : decode cX6_quarrelStroke 19 = .ok (.aload_n 0, 1) := by decide +kernel
theorem dX6_quarrelStroke_20 : decode cX6_quarrelStroke 20 = .ok (.getfield 12, 3) := by decide +kernel
theorem dX6_quarrelStroke_23 : decode cX6_quarrelStroke 23 = .ok (.aload_n 1, 1) := by decide +kernel
theorem dX6_quarrelStroke_24 : decode cX6_quarrelStroke 24 = .ok (.invokevirtual 52, 3) := by decide +kernel
theorem dX6_quarrelStroke_27 : decode cX6_quarrelStroke 27 = .ok (.ifCond .ne 31, 3) := by decide +kernel
theorem dX6_quarrelStroke_30 : decode cX6_quarrelStroke 30 = .ok (.aload_n 0, 1) := by decide +kernel
theorem dX6_quarrelStroke_31 : decode cX6_quarrelStroke 31 = .ok (.getfield 12, 3) := by decide +kernel
theorem dX6_quarrelStroke_34 : decode cX6_quarrelStroke 34 = .ok (.aload_n 1, 1) := by decide +kernel
theorem dX6_quarrelStroke_35 : decode cX6_quarrelStroke 35 = .ok (.invokevirtual 56, 3) := by decide +kernel
theorem dX6_quarrelStroke_38 : decode cX6_quarrelStroke 38 = .ok (.pop, 1) := by decide +kernel
theorem dX6_quarrelStroke_39 : decode cX6_quarrelStroke 39 = .ok (.aload_n 0, 1) := by decide +kernel
theorem dX6_quarrelStroke_40 : decode cX6_quarrelStroke 40 = .ok (.getfield 12, 3) := by decide +kernel
theorem dX6_quarrelStroke_43 : decode cX6_quarrelStroke 43 = .ok (.invokevirtual 115, 3) := by decide +kernel
theorem dX6_quarrelStroke_46 : decode cX6_quarrelStroke 46 = .ok (.ifCond .eq 6, 3) := by decide +kernel
theorem dX6_quarrelStroke_49 : decode cX6_quarrelStroke 49 = .ok (.iload 5, 2) := by decide +kernel
theorem dX6_quarrelStroke_51 : decode cX6_quarrelStroke 51 = .ok (.ireturn, 1) := by decide +kernel
theorem dX6_quarrelStroke_52 : decode cX6_quarrelStroke 52 = .ok (.iinc 5 1, 3) := by decide +kernel
theorem dX6_quarrelStroke_55 : decode cX6_quarrelStroke 55 = .ok (.goto (-43), 3) := by decide +kernel
theorem dX6_quarrelStroke_58 : decode cX6_quarrelStroke 58 = .ok (.iconst (-1), 1) := by decide +kernel
theorem dX6_quarrelStroke_59 : decode cX6_quarrelStroke 59 = .ok (.ireturn, 1) := by decide +kernel
theorem dX6_findMate_0 : decode cX6_findMate 0 = .ok (.iconst (-1), 1) := by decide +kernel
theorem dX6_findMate_1 : decode cX6_findMate 1 = .ok (.istore_n 3, 1) := by decide +kernel
theorem dX6_findMate_2 : decode cX6_findMate 2 = .ok (.aload_n 1, 1) := by decide +kernel
theorem dX6_findMate_3 : decode cX6_findMate 3 = .ok (.getfield 119, 3) := by decide +kernel
theorem dX6_findMate_6 : decode cX6_findMate 6 = .ok (.iconst 4, 1) := by decide +kernel
theorem dX6_findMate_7 : decode cX6_findMate 7 = .ok (.if_icmp .ge 5, 3) := by decide +kernel
theorem dX6_findMate_10 : decode cX6_findMate 10 = .ok (.iload_n 3, 1) := by decide +kernel
theorem dX6_findMate_11 : decode cX6_findMate 11 = .ok (.ireturn, 1) := by decide +kernel
theorem dX6_findMate_12 : decode cX6_findMate 12 = .ok (.aload_n 0, 1) := by decide +kernel
theorem dX6_findMate_13 : decode cX6_findMate 13 = .ok (.sipush 1000, 3) := by decide +kernel
theorem dX6_findMate_16 : decode cX6_findMate 16 = .ok (.putfield 96, 3) := by decide +kernel
theorem dX6_findMate_19 : decode cX6_findMate 19 = .ok (.iconst 0, 1) := by decide +kernel
theorem dX6_findMate_20 : decode cX6_findMate 20 = .ok (.istore 4, 2) := by decide +kernel
theorem dX6_findMate_22 : decode cX6_findMate 22 = .ok (.iconst 1, 1) := by decide +kernel
theorem dX6_findMate_23 : decode cX6_findMate 23 = .ok (.istore 5, 2) := by decide +kernel
theorem dX6_findMate_25 : decode cX6_findMate 25 = .ok (.iload 5, 2) := by decide +kernel
theorem dX6_findMate_27 : decode cX6_findMate 27 = .ok (.iconst 4, 1) := by decide +kernel
theorem dX6_findMate_28 : decode cX6_findMate 28 = .ok (.if_icmp .ge 131, 3) := by decide +kernel
theorem dX6_findMate_31 : decode cX6_findMate 31 = .ok (.iload 5, 2) := by decide +kernel
theorem dX6_findMate_33 : decode cX6_findMate 33 = .ok (.iconst 1, 1) := by decide +kernel
theorem dX6_findMate_34 : decode cX6_findMate 34 = .ok (.if_icmp .ne 7, 3) := by decide +kernel
theorem dX6_findMate_37 : decode cX6_findMate 37 = .ok (.iconst 2, 1) := by decide +kernel
theorem dX6_findMate_38 : decode cX6_findMate 38 = .ok (.goto 4, 3) := by decide +kernel
theorem dX6_findMate_41 : decode cX6_findMate 41 = .ok (.iconst 1, 1) := by decide +kernel
theorem dX6_findMate_42 : decode cX6_findMate 42 = .ok (.istore 6, 2) := by decide +kernel
theorem dX6_findMate_44 : decode cX6_findMate 44 = .ok (.iload 5, 2) := by decide +kernel
theorem dX6_findMate_46 : decode cX6_findMate 46 = .ok (.iconst 3, 1) := by decide +kernel
theorem dX6_findMate_47 : decode cX6_findMate 47 = .ok (.if_icmp .ne 7, 3) := by decide +kernel
theorem dX6_findMate_50 : decode cX6_findMate 50 = .ok (.iconst 2, 1) := by decide +kernel
theorem dX6_findMate_51 : decode cX6_findMate 51 = .ok (.goto 4, 3) := by decide +kernel
theorem dX6_findMate_54 : decode cX6_findMate 54 = .ok (.iconst 3, 1) := by decide +kernel
theorem dX6_findMate_55 : decode cX6_findMate 55 = .ok (.istore 7, 2) := by decide +kernel
theorem dX6_findMate_57 : decode cX6_findMate 57 = .ok (.aload_n 0, 1) := by decide +kernel
theorem dX6_findMate_58 : decode cX6_findMate 58 = .ok (.aload_n 1, 1) := by decide +kernel
theorem dX6_findMate_59 : decode cX6_findMate 59 = .ok (.aload_n 2, 1) := by decide +kernel
theorem dX6_findMate_60 : decode cX6_findMate 60 = .ok (.iconst 0, 1) := by decide +kernel
theorem dX6_findMate_61 : decode cX6_findMate 61 = .ok (.iload 5, 2) := by decide +kernel
theorem dX6_findMate_63 : decode cX6_findMate 63 = .ok (.invokevirtual 122, 3) := by decide +kernel
theorem dX6_findMate_66 : decode cX6_findMate 66 = .ok (.istore 8, 2) := by decide +kernel
theorem dX6_findMate_68 : decode cX6_findMate 68 = .ok (.aload_n 0, 1) := by decide +kernel
theorem dX6_findMate_69 : decode cX6_findMate 69 = .ok (.aload_n 1, 1) := by decide +kernel
theorem dX6_findMate_70 : decode cX6_findMate 70 = .ok (.aload_n 2, 1) := by decide +kernel
theorem dX6_findMate_71 : decode cX6_findMate 71 = .ok (.iload 6, 2) := by decide +kernel
theorem dX6_findMate_73 : decode cX6_findMate 73 = .ok (.iload 7, 2) := by decide +kernel
theorem dX6_findMate_75 : decode cX6_findMate 75 = .ok (.invokevirtual 122, 3) := by decide +kernel
theorem dX6_findMate_78 : decode cX6_findMate 78 = .ok (.istore 9, 2) := by decide +kernel
theorem dX6_findMate_80 : decode cX6_findMate 80 = .ok (.iload 8, 2) := by decide +kernel
theorem dX6_findMate_82 : decode cX6_findMate 82 = .ok (.iload 9, 2) := by decide +kernel
theorem dX6_findMate_84 : decode cX6_findMate 84 = .ok (.invokestatic 126, 3) := by decide +kernel
theorem dX6_findMate_87 : decode cX6_findMate 87 = .ok (.istore 10, 2) := by decide +kernel
theorem dX6_findMate_89 : decode cX6_findMate 89 = .ok (.iload 10, 2) := by decide +kernel
theorem dX6_findMate_91 : decode cX6_findMate 91 = .ok (.aload_n 0, 1) := by decide +kernel
theorem dX6_findMate_92 : decode cX6_findMate 92 = .ok (.getfield 96, 3) := by decide +kernel
theorem dX6_findMate_95 : decode cX6_findMate 95 = .ok (.if_icmp .ne 25, 3) := by decide +kernel
theorem dX6_findMate_98 : decode cX6_findMate 98 = .ok (.iload 10, 2) := by decide +kernel
theorem dX6_findMate_100 : decode cX6_findMate 100 = .ok (.sipush 1000, 3) := by decide +kernel
theorem dX6_findMate_103 : decode cX6_findMate 103 = .ok (.if_icmp .ge 17, 3) := by decide +kernel
theorem dX6_findMate_106 : decode cX6_findMate 106 = .ok (.iload 8, 2) := by decide +kernel
theorem dX6_findMate_108 : decode cX6_findMate 108 = .ok (.iload 9, 2) := by decide +kernel
theorem dX6_findMate_110 : decode cX6_findMate 110 = .ok (.iadd, 1) := by decide +kernel
theorem dX6_findMate_111 : decode cX6_findMate 111 = .ok (.iload 4, 2) := by decide +kernel
theorem dX6_findMate_113 : decode cX6_findMate 113 = .ok (.if_icmp .ge 7, 3) := by decide +kernel
theorem dX6_findMate_116 : decode cX6_findMate 116 = .ok (.iconst 1, 1) := by decide +kernel
theorem dX6_findMate_117 : decode cX6_findMate 117 = .ok (.goto 4, 3) := by decide +kernel
theorem dX6_findMate_120 : decode cX6_findMate 120 = .ok (.iconst 0, 1) := by decide +kernel
theorem dX6_findMate_121 : decode cX6_findMate 121 = .ok (.istore 11, 2) := by decide +kernel
theorem dX6_findMate_123 : decode cX6_findMate 123 = .ok (.iload 10, 2) := by decide +kernel
theorem dX6_findMate_125 : decode cX6_findMate 125 = .ok (.aload_n 0, 1) := by decide +kernel
theorem dX6_findMate_126 : decode cX6_findMate 126 = .ok (.getfield 96, 3) := by decide +kernel
theorem dX6_findMate_129 : decode cX6_findMate 129 = .ok (.if_icmp .lt 8, 3) := by decide +kernel
theorem dX6_findMate_132 : decode cX6_findMate 132 = .ok (.iload 11, 2) := by decide +kernel
theorem dX6_findMate_134 : decode cX6_findMate 134 = .ok (.ifCond .eq 19, 3) := by decide +kernel
theorem dX6_findMate_137 : decode cX6_findMate 137 = .ok (.iload 5, 2) := by decide +kernel
theorem dX6_findMate_139 : decode cX6_findMate 139 = .ok (.istore_n 3, 1) := by decide +kernel
theorem dX6_findMate_140 : decode cX6_findMate 140 = .ok (.aload_n 0, 1) := by decide +kernel
theorem dX6_findMate_141 : decode cX6_findMate 141 = .ok (.iload 10, 2) := by decide +kernel
theorem dX6_findMate_143 : decode cX6_findMate 143 = .ok (.putfield 96, 3) := by decide +kernel
theorem dX6_findMate_146 : decode cX6_findMate 146 = .ok (.iload 8, 2) := by decide +kernel
theorem dX6_findMate_148 : decode cX6_findMate 148 = .ok (.iload 9, 2) := by decide +kernel
theorem dX6_findMate_150 : decode cX6_findMate 150 = .ok (.iadd, 1) := by decide +kernel
theorem dX6_findMate_151 : decode cX6_findMate 151 = .ok (.istore 4, 2) := by decide +kernel
theorem dX6_findMate_153 : decode cX6_findMate 153 = .ok (.iinc 5 1, 3) := by decide +kernel
theorem dX6_findMate_156 : decode cX6_findMate 156 = .ok (.goto (-131), 3) := by decide +kernel
theorem dX6_findMate_159 : decode cX6_findMate 159 = .ok (.iload_n 3, 1) := by decide +kernel
theorem dX6_findMate_160 : decode cX6_findMate 160 = .ok (.ireturn, 1) := by decide +kernel
theorem dX6_findWedge_0 : decode cX6_findWedge 0 = .ok (.aload_n 0, 1) := by decide +kernel
theorem dX6_findWedge_1 : decode cX6_findWedge 1 = .ok (.aload_n 0, 1) := by decide +kernel
theorem dX6_findWedge_2 : decode cX6_findWedge 2 = .ok (.aload_n 1, 1) := by decide +kernel
theorem dX6_findWedge_3 : decode cX6_findWedge 3 = .ok (.aload_n 2, 1) := by decide +kernel
theorem dX6_findWedge_4 : decode cX6_findWedge 4 = .ok (.invokevirtual 129, 3) := by decide +kernel
theorem dX6_findWedge_7 : decode cX6_findWedge 7 = .ok (.putfield 96, 3) := by decide +kernel
theorem dX6_findWedge_10 : decode cX6_findWedge 10 = .ok (.iconst (-1), 1) := by decide +kernel
theorem dX6_findWedge_11 : decode cX6_findWedge 11 = .ok (.istore_n 3, 1) := by decide +kernel
theorem dX6_findWedge_12 : decode cX6_findWedge 12 = .ok (.aload_n 2, 1) := by decide +kernel
theorem dX6_findWedge_13 : decode cX6_findWedge 13 = .ok (.getfield 133, 3) := by decide +kernel
theorem dX6_findWedge_16 : decode cX6_findWedge 16 = .ok (.ifCond .eq 5, 3) := by decide +kernel
theorem dX6_findWedge_19 : decode cX6_findWedge 19 = .ok (.iload_n 3, 1) := by decide +kernel
theorem dX6_findWedge_20 : decode cX6_findWedge 20 = .ok (.ireturn, 1) := by decide +kernel
theorem dX6_findWedge_21 : decode cX6_findWedge 21 = .ok (.aload_n 0, 1) := by decide +kernel
theorem dX6_findWedge_22 : decode cX6_findWedge 22 = .ok (.aload_n 0, 1) := by decide +kernel
theorem dX6_findWedge_23 : decode cX6_findWedge 23 = .ok (.getfield 96, 3) := by decide +kernel
theorem dX6_findWedge_26 : decode cX6_findWedge 26 = .ok (.sipush 1000, 3) := by decide +kernel
theorem dX6_findWedge_29 : decode cX6_findWedge 29 = .ok (.if_icmp .ne 9, 3) := by decide +kernel
theorem dX6_findWedge_32 : decode cX6_findWedge 32 = .ok (.sipush 1003, 3) := by decide +kernel
theorem dX6_findWedge_35 : decode cX6_findWedge 35 = .ok (.goto 7, 3) := by decide +kernel
theorem dX6_findWedge_38 : decode cX6_findWedge 38 = .ok (.aload_n 0, 1) := by decide +kernel
theorem dX6_findWedge_39 : decode cX6_findWedge 39 = .ok (.getfield 96, 3) := by decide +kernel
theorem dX6_findWedge_42 : decode cX6_findWedge 42 = .ok (.putfield 96, 3) := by decide +kernel
theorem dX6_findWedge_45 : decode cX6_findWedge 45 = .ok (.aload_n 0, 1) := by decide +kernel
theorem dX6_findWedge_46 : decode cX6_findWedge 46 = .ok (.getfield 12, 3) := by decide +kernel
theorem dX6_findWedge_49 : decode cX6_findWedge 49 = .ok (.aload_n 2, 1) := by decide +kernel
theorem dX6_findWedge_50 : decode cX6_findWedge 50 = .ok (.invokevirtual 21, 3) := by decide +kernel
theorem dX6_findWedge_53 : decode cX6_findWedge 53 = .ok (.iconst 0, 1) := by decide +kernel
theorem dX6_findWedge_54 : decode cX6_findWedge 54 = .ok (.istore 4, 2) := by decide +kernel
end
section
theorem dX6_findWedge_56 : decode cX6_findWedge 56 = .ok (.iload 4, 2) := by decide +kernel
theorem dX6_findWedge_58 : decode cX6_findWedge 58 = .ok (.bipush 99, 2) := by decide +kernel
theorem dX6_findWedge_60 : decode cX6_findWedge 60 = .ok (.if_icmp .gt 88, 3) := by decide +kernel
theorem dX6_findWedge_63 : decode cX6_findWedge 63 = .ok (.aload_n 0, 1) := by decide +kernel
theorem dX6_findWedge_64 : decode cX6_findWedge 64 = .ok (.getfield 12, 3) := by decide +kernel
theorem dX6_findWedge_67 : decode cX6_findWedge 67 = .ok (.aload_n 1, 1) := by decide +kernel
theorem dX6_findWedge_68 : decode cX6_findWedge 68 = .ok (.invokevirtual 52, 3) := by decide +kernel
theorem dX6_findWedge_71 : decode cX6_findWedge 71 = .ok (.ifCond .ne 77, 3) := by decide +kernel
theorem dX6_findWedge_74 : decode cX6_findWedge 74 = .ok (.aload_n 0, 1) := by decide +kernel
theorem dX6_findWedge_75 : decode cX6_findWedge 75 = .ok (.getfield 18, 3) := by decide +kernel
theorem dX6_findWedge_78 : decode cX6_findWedge 78 = .ok (.aload_n 0, 1) := by decide +kernel
theorem dX6_findWedge_79 : decode cX6_findWedge 79 = .ok (.getfield 12, 3) := by decide +kernel
theorem dX6_findWedge_82 : decode cX6_findWedge 82 = .ok (.invokevirtual 21, 3) := by decide +kernel
theorem dX6_findWedge_85 : decode cX6_findWedge 85 = .ok (.aload_n 0, 1) := by decide +kernel
theorem dX6_findWedge_86 : decode cX6_findWedge 86 = .ok (.getfield 18, 3) := by decide +kernel
theorem dX6_findWedge_89 : decode cX6_findWedge 89 = .ok (.iconst 1, 1) := by decide +kernel
theorem dX6_findWedge_90 : decode cX6_findWedge 90 = .ok (.putfield 133, 3) := by decide +kernel
theorem dX6_findWedge_93 : decode cX6_findWedge 93 = .ok (.iload 4, 2) := by decide +kernel
theorem dX6_findWedge_95 : decode cX6_findWedge 95 = .ok (.aload_n 0, 1) := by decide +kernel
theorem dX6_findWedge_96 : decode cX6_findWedge 96 = .ok (.aload_n 1, 1) := by decide +kernel
theorem dX6_findWedge_97 : decode cX6_findWedge 97 = .ok (.aload_n 0, 1) := by decide +kernel
theorem dX6_findWedge_98 : decode cX6_findWedge 98 = .ok (.getfield 18, 3) := by decide +kernel
theorem dX6_findWedge_101 : decode cX6_findWedge 101 = .ok (.sipush 999, 3) := by decide +kernel
theorem dX6_findWedge_104 : decode cX6_findWedge 104 = .ok (.iload 4, 2) := by decide +kernel
theorem dX6_findWedge_106 : decode cX6_findWedge 106 = .ok (.isub, 1) := by decide +kernel
theorem dX6_findWedge_107 : decode cX6_findWedge 107 = .ok (.invokevirtual 25, 3) := by decide +kernel
theorem dX6_findWedge_110 : decode cX6_findWedge 110 = .ok (.iadd, 1) := by decide +kernel
theorem dX6_findWedge_111 : decode cX6_findWedge 111 = .ok (.iconst 3, 1) := by decide +kernel
theorem dX6_findWedge_112 : decode cX6_findWedge 112 = .ok (.iadd, 1) := by decide +kernel
theorem dX6_findWedge_113 : decode cX6_findWedge 113 = .ok (.istore 5, 2) := by decide +kernel
theorem dX6_findWedge_115 : decode cX6_findWedge 115 = .ok (.iload 5, 2) := by decide +kernel
theorem dX6_findWedge_117 : decode cX6_findWedge 117 = .ok (.aload_n 0, 1) := by decide +kernel
theorem dX6_findWedge_118 : decode cX6_findWedge 118 = .ok (.getfield 96, 3) := by decide +kernel
theorem dX6_findWedge_121 : decode cX6_findWedge 121 = .ok (.if_icmp .ge 12, 3) := by decide +kernel
theorem dX6_findWedge_124 : decode cX6_findWedge 124 = .ok (.aload_n 0, 1) := by decide +kernel
theorem dX6_findWedge_125 : decode cX6_findWedge 125 = .ok (.iload 5, 2) := by decide +kernel
theorem dX6_findWedge_127 : decode cX6_findWedge 127 = .ok (.putfield 96, 3) := by decide +kernel
theorem dX6_findWedge_130 : decode cX6_findWedge 130 = .ok (.iload 4, 2) := by decide +kernel
theorem dX6_findWedge_132 : decode cX6_findWedge 132 = .ok (.istore_n 3, 1) := by decide +kernel
theorem dX6_findWedge_133 : decode cX6_findWedge 133 = .ok (.aload_n 0, 1) := by decide +kernel
theorem dX6_findWedge_134 : decode cX6_findWedge 134 = .ok (.getfield 12, 3) := by decide +kernel
theorem dX6_findWedge_137 : decode cX6_findWedge 137 = .ok (.aload_n 1, 1) := by decide +kernel
theorem dX6_findWedge_138 : decode cX6_findWedge 138 = .ok (.invokevirtual 56, 3) := by decide +kernel
theorem dX6_findWedge_141 : decode cX6_findWedge 141 = .ok (.pop, 1) := by decide +kernel
theorem dX6_findWedge_142 : decode cX6_findWedge 142 = .ok (.iinc 4 1, 3) := by decide +kernel
theorem dX6_findWedge_145 : decode cX6_findWedge 145 = .ok (.goto (-89), 3) := by decide +kernel
theorem dX6_findWedge_148 : decode cX6_findWedge 148 = .ok (.iload_n 3, 1) := by decide +kernel
theorem dX6_findWedge_149 : decode cX6_findWedge 149 = .ok (.ireturn, 1) := by decide +kernel
theorem dX6_findRests_0 : decode cX6_findRests 0 = .ok (.aload_n 0, 1) := by decide +kernel
theorem dX6_findRests_1 : decode cX6_findRests 1 = .ok (.iconst (-1), 1) := by decide +kernel
theorem dX6_findRests_2 : decode cX6_findRests 2 = .ok (.putfield 137, 3) := by decide +kernel
theorem dX6_findRests_5 : decode cX6_findRests 5 = .ok (.iconst 0, 1) := by decide +kernel
theorem dX6_findRests_6 : decode cX6_findRests 6 = .ok (.istore 4, 2) := by decide +kernel
theorem dX6_findRests_8 : decode cX6_findRests 8 = .ok (.iconst 0, 1) := by decide +kernel
theorem dX6_findRests_9 : decode cX6_findRests 9 = .ok (.istore 5, 2) := by decide +kernel
theorem dX6_findRests_11 : decode cX6_findRests 11 = .ok (.iconst 0, 1) := by decide +kernel
theorem dX6_findRests_12 : decode cX6_findRests 12 = .ok (.istore 6, 2) := by decide +kernel
theorem dX6_findRests_14 : decode cX6_findRests 14 = .ok (.iload 6, 2) := by decide +kernel
theorem dX6_findRests_16 : decode cX6_findRests 16 = .ok (.iconst 1, 1) := by decide +kernel
theorem dX6_findRests_17 : decode cX6_findRests 17 = .ok (.iload_n 3, 1) := by decide +kernel
theorem dX6_findRests_18 : decode cX6_findRests 18 = .ok (.ishl, 1) := by decide +kernel
theorem dX6_findRests_19 : decode cX6_findRests 19 = .ok (.if_icmp .ge 66, 3) := by decide +kernel
theorem dX6_findRests_22 : decode cX6_findRests 22 = .ok (.iload 6, 2) := by decide +kernel
theorem dX6_findRests_24 : decode cX6_findRests 24 = .ok (.invokestatic 140, 3) := by decide +kernel
theorem dX6_findRests_27 : decode cX6_findRests 27 = .ok (.istore 7, 2) := by decide +kernel
theorem dX6_findRests_29 : decode cX6_findRests 29 = .ok (.aload_n 0, 1) := by decide +kernel
theorem dX6_findRests_30 : decode cX6_findRests 30 = .ok (.aload_n 1, 1) := by decide +kernel
theorem dX6_findRests_31 : decode cX6_findRests 31 = .ok (.aload_n 2, 1) := by decide +kernel
theorem dX6_findRests_32 : decode cX6_findRests 32 = .ok (.iload 6, 2) := by decide +kernel
theorem dX6_findRests_34 : decode cX6_findRests 34 = .ok (.iload_n 3, 1) := by decide +kernel
theorem dX6_findRests_35 : decode cX6_findRests 35 = .ok (.invokevirtual 146, 3) := by decide +kernel
theorem dX6_findRests_38 : decode cX6_findRests 38 = .ok (.istore 8, 2) := by decide +kernel
theorem dX6_findRests_40 : decode cX6_findRests 40 = .ok (.iload 8, 2) := by decide +kernel
theorem dX6_findRests_42 : decode cX6_findRests 42 = .ok (.aload_n 0, 1) := by decide +kernel
theorem dX6_findRests_43 : decode cX6_findRests 43 = .ok (.getfield 137, 3) := by decide +kernel
theorem dX6_findRests_46 : decode cX6_findRests 46 = .ok (.if_icmp .gt 19, 3) := by decide +kernel
theorem dX6_findRests_49 : decode cX6_findRests 49 = .ok (.iload 8, 2) := by decide +kernel
theorem dX6_findRests_51 : decode cX6_findRests 51 = .ok (.aload_n 0, 1) := by decide +kernel
theorem dX6_findRests_52 : decode cX6_findRests 52 = .ok (.getfield 137, 3) := by decide +kernel
theorem dX6_findRests_55 : decode cX6_findRests 55 = .ok (.if_icmp .ne 24, 3) := by decide +kernel
theorem dX6_findRests_58 : decode cX6_findRests 58 = .ok (.iload 7, 2) := by decide +kernel
theorem dX6_findRests_60 : decode cX6_findRests 60 = .ok (.iload 4, 2) := by decide +kernel
theorem dX6_findRests_62 : decode cX6_findRests 62 = .ok (.if_icmp .ge 17, 3) := by decide +kernel
theorem dX6_findRests_65 : decode cX6_findRests 65 = .ok (.aload_n 0, 1) := by decide +kernel
theorem dX6_findRests_66 : decode cX6_findRests 66 = .ok (.iload 8, 2) := by decide +kernel
theorem dX6_findRests_68 : decode cX6_findRests 68 = .ok (.putfield 137, 3) := by decide +kernel
theorem dX6_findRests_71 : decode cX6_findRests 71 = .ok (.iload 7, 2) := by decide +kernel
theorem dX6_findRests_73 : decode cX6_findRests 73 = .ok (.istore 4, 2) := by decide +kernel
theorem dX6_findRests_75 : decode cX6_findRests 75 = .ok (.iload 6, 2) := by decide +kernel
theorem dX6_findRests_77 : decode cX6_findRests 77 = .ok (.istore 5, 2) := by decide +kernel
theorem dX6_findRests_79 : decode cX6_findRests 79 = .ok (.iinc 6 1, 3) := by decide +kernel
theorem dX6_findRests_82 : decode cX6_findRests 82 = .ok (.goto (-68), 3) := by decide +kernel
theorem dX6_findRests_85 : decode cX6_findRests 85 = .ok (.iload 5, 2) := by decide +kernel
theorem dX6_findRests_87 : decode cX6_findRests 87 = .ok (.iload_n 3, 1) := by decide +kernel
theorem dX6_findRests_88 : decode cX6_findRests 88 = .ok (.invokestatic 149, 3) := by decide +kernel
theorem dX6_findRests_91 : decode cX6_findRests 91 = .ok (.ireturn, 1) := by decide +kernel
theorem dX6_depthBehind_0 : decode cX6_depthBehind 0 = .ok (.aload_n 0, 1) := by decide +kernel
theorem dX6_depthBehind_1 : decode cX6_depthBehind 1 = .ok (.getfield 12, 3) := by decide +kernel
theorem dX6_depthBehind_4 : decode cX6_depthBehind 4 = .ok (.aload_n 2, 1) := by decide +kernel
theorem dX6_depthBehind_5 : decode cX6_depthBehind 5 = .ok (.invokevirtual 21, 3) := by decide +kernel
theorem dX6_depthBehind_8 : decode cX6_depthBehind 8 = .ok (.iload 4, 2) := by decide +kernel
theorem dX6_depthBehind_10 : decode cX6_depthBehind 10 = .ok (.iconst 1, 1) := by decide +kernel
theorem dX6_depthBehind_11 : decode cX6_depthBehind 11 = .ok (.isub, 1) := by decide +kernel
theorem dX6_depthBehind_12 : decode cX6_depthBehind 12 = .ok (.istore 5, 2) := by decide +kernel
theorem dX6_depthBehind_14 : decode cX6_depthBehind 14 = .ok (.iload 5, 2) := by decide +kernel
theorem dX6_depthBehind_16 : decode cX6_depthBehind 16 = .ok (.ifCond .lt 50, 3) := by decide +kernel
theorem dX6_depthBehind_19 : decode cX6_depthBehind 19 = .ok (.aload_n 0, 1) := by decide +kernel
theorem dX6_depthBehind_20 : decode cX6_depthBehind 20 = .ok (.getfield 12, 3) := by decide +kernel
theorem dX6_depthBehind_23 : decode cX6_depthBehind 23 = .ok (.aload_n 1, 1) := by decide +kernel
theorem dX6_depthBehind_24 : decode cX6_depthBehind 24 = .ok (.invokevirtual 52, 3) := by decide +kernel
theorem dX6_depthBehind_27 : decode cX6_depthBehind 27 = .ok (.ifCond .ne 39, 3) := by decide +kernel
theorem dX6_depthBehind_30 : decode cX6_depthBehind 30 = .ok (.iload_n 3, 1) := by decide +kernel
theorem dX6_depthBehind_31 : decode cX6_depthBehind 31 = .ok (.iload 5, 2) := by decide +kernel
theorem dX6_depthBehind_33 : decode cX6_depthBehind 33 = .ok (.ishr, 1) := by decide +kernel
theorem dX6_depthBehind_34 : decode cX6_depthBehind 34 = .ok (.iconst 1, 1) := by decide +kernel
theorem dX6_depthBehind_35 : decode cX6_depthBehind 35 = .ok (.iand, 1) := by decide +kernel
theorem dX6_depthBehind_36 : decode cX6_depthBehind 36 = .ok (.iconst 1, 1) := by decide +kernel
theorem dX6_depthBehind_37 : decode cX6_depthBehind 37 = .ok (.if_icmp .ne 14, 3) := by decide +kernel
theorem dX6_depthBehind_40 : decode cX6_depthBehind 40 = .ok (.aload_n 0, 1) := by decide +kernel
theorem dX6_depthBehind_41 : decode cX6_depthBehind 41 = .ok (.getfield 12, 3) := by decide +kernel
theorem dX6_depthBehind_44 : decode cX6_depthBehind 44 = .ok (.iconst 1, 1) := by decide +kernel
theorem dX6_depthBehind_45 : decode cX6_depthBehind 45 = .ok (.invokevirtual 152, 3) := by decide +kernel
theorem dX6_depthBehind_48 : decode cX6_depthBehind 48 = .ok (.goto 12, 3) := by decide +kernel
theorem dX6_depthBehind_51 : decode cX6_depthBehind 51 = .ok (.aload_n 0, 1) := by decide +kernel
theorem dX6_depthBehind_52 : decode cX6_depthBehind 52 = .ok (.getfield 12, 3) := by decide +kernel
theorem dX6_depthBehind_55 : decode cX6_depthBehind 55 = .ok (.aload_n 1, 1) := by decide +kernel
theorem dX6_depthBehind_56 : decode cX6_depthBehind 56 = .ok (.invokevirtual 56, 3) := by decide +kernel
theorem dX6_depthBehind_59 : decode cX6_depthBehind 59 = .ok (.pop, 1) := by decide +kernel
theorem dX6_depthBehind_60 : decode cX6_depthBehind 60 = .ok (.iinc 5 (-1), 3) := by decide +kernel
theorem dX6_depthBehind_63 : decode cX6_depthBehind 63 = .ok (.goto (-49), 3) := by decide +kernel
theorem dX6_depthBehind_66 : decode cX6_depthBehind 66 = .ok (.aload_n 0, 1) := by decide +kernel
theorem dX6_depthBehind_67 : decode cX6_depthBehind 67 = .ok (.getfield 12, 3) := by decide +kernel
theorem dX6_depthBehind_70 : decode cX6_depthBehind 70 = .ok (.getfield 156, 3) := by decide +kernel
theorem dX6_depthBehind_73 : decode cX6_depthBehind 73 = .ok (.ireturn, 1) := by decide +kernel
theorem dX6_turnedRound_0 : decode cX6_turnedRound 0 = .ok (.iconst 0, 1) := by decide +kernel
theorem dX6_turnedRound_1 : decode cX6_turnedRound 1 = .ok (.istore_n 2, 1) := by decide +kernel
theorem dX6_turnedRound_2 : decode cX6_turnedRound 2 = .ok (.iconst 0, 1) := by decide +kernel
theorem dX6_turnedRound_3 : decode cX6_turnedRound 3 = .ok (.istore_n 3, 1) := by decide +kernel
theorem dX6_turnedRound_4 : decode cX6_turnedRound 4 = .ok (.iload_n 3, 1) := by decide +kernel
theorem dX6_turnedRound_5 : decode cX6_turnedRound 5 = .ok (.iload_n 1, 1) := by decide +kernel
theorem dX6_turnedRound_6 : decode cX6_turnedRound 6 = .ok (.if_icmp .ge 23, 3) := by decide +kernel
theorem dX6_turnedRound_9 : decode cX6_turnedRound 9 = .ok (.iload_n 2, 1) := by decide +kernel
theorem dX6_turnedRound_10 : decode cX6_turnedRound 10 = .ok (.iload_n 0, 1) := by decide +kernel
theorem dX6_turnedRound_11 : decode cX6_turnedRound 11 = .ok (.iload_n 1, 1) := by decide +kernel
theorem dX6_turnedRound_12 : decode cX6_turnedRound 12 = .ok (.iconst 1, 1) := by decide +kernel
theorem dX6_turnedRound_13 : decode cX6_turnedRound 13 = .ok (.isub, 1) := by decide +kernel
theorem dX6_turnedRound_14 : decode cX6_turnedRound 14 = .ok (.iload_n 3, 1) := by decide +kernel
theorem dX6_turnedRound_15 : decode cX6_turnedRound 15 = .ok (.isub, 1) := by decide +kernel
theorem dX6_turnedRound_16 : decode cX6_turnedRound 16 = .ok (.ishr, 1) := by decide +kernel
theorem dX6_turnedRound_17 : decode cX6_turnedRound 17 = .ok (.iconst 1, 1) := by decide +kernel
theorem dX6_turnedRound_18 : decode cX6_turnedRound 18 = .ok (.iand, 1) := by decide +kernel
theorem dX6_turnedRound_19 : decode cX6_turnedRound 19 = .ok (.iload_n 3, 1) := by decide +kernel
theorem dX6_turnedRound_20 : decode cX6_turnedRound 20 = .ok (.ishl, 1) := by decide +kernel
theorem dX6_turnedRound_21 : decode cX6_turnedRound 21 = .ok (.ior, 1) := by decide +kernel
theorem dX6_turnedRound_22 : decode cX6_turnedRound 22 = .ok (.istore_n 2, 1) := by decide +kernel
theorem dX6_turnedRound_23 : decode cX6_turnedRound 23 = .ok (.iinc 3 1, 3) := by decide +kernel
theorem dX6_turnedRound_26 : decode cX6_turnedRound 26 = .ok (.goto (-22), 3) := by decide +kernel
theorem dX6_turnedRound_29 : decode cX6_turnedRound 29 = .ok (.iload_n 2, 1) := by decide +kernel
theorem dX6_turnedRound_30 : decode cX6_turnedRound 30 = .ok (.ireturn, 1) := by decide +kernel
theorem dX6_gainByFile_0 : decode cX6_gainByFile 0 = .ok (.aload_n 0, 1) := by decide +kernel
theorem dX6_gainByFile_1 : decode cX6_gainByFile 1 = .ok (.aload_n 1, 1) := by decide +kernel
theorem dX6_gainByFile_2 : decode cX6_gainByFile 2 = .ok (.aload_n 2, 1) := by decide +kernel
theorem dX6_gainByFile_3 : decode cX6_gainByFile 3 = .ok (.invokevirtual 129, 3) := by decide +kernel
theorem dX6_gainByFile_6 : decode cX6_gainByFile 6 = .ok (.istore_n 3, 1) := by decide +kernel
theorem dX6_gainByFile_7 : decode cX6_gainByFile 7 = .ok (.aload_n 0, 1) := by decide +kernel
theorem dX6_gainByFile_8 : decode cX6_gainByFile 8 = .ok (.getfield 12, 3) := by decide +kernel
theorem dX6_gainByFile_11 : decode cX6_gainByFile 11 = .ok (.aload_n 2, 1) := by decide +kernel
theorem dX6_gainByFile_12 : decode cX6_gainByFile 12 = .ok (.invokevirtual 21, 3) := by decide +kernel
theorem dX6_gainByFile_15 : decode cX6_gainByFile 15 = .ok (.aload_n 0, 1) := by decide +kernel
theorem dX6_gainByFile_16 : decode cX6_gainByFile 16 = .ok (.getfield 12, 3) := by decide +kernel
theorem dX6_gainByFile_19 : decode cX6_gainByFile 19 = .ok (.bipush 9, 2) := by decide +kernel
theorem dX6_gainByFile_21 : decode cX6_gainByFile 21 = .ok (.aload_n 2, 1) := by decide +kernel
theorem dX6_gainByFile_22 : decode cX6_gainByFile 22 = .ok (.getfield 159, 3) := by decide +kernel
theorem dX6_gainByFile_25 : decode cX6_gainByFile 25 = .ok (.iconst 1, 1) := by decide +kernel
theorem dX6_gainByFile_26 : decode cX6_gainByFile 26 = .ok (.iadd, 1) := by decide +kernel
theorem dX6_gainByFile_27 : decode cX6_gainByFile 27 = .ok (.invokestatic 105, 3) := by decide +kernel
theorem dX6_gainByFile_30 : decode cX6_gainByFile 30 = .ok (.putfield 159, 3) := by decide +kernel
theorem dX6_gainByFile_33 : decode cX6_gainByFile 33 = .ok (.iload_n 3, 1) := by decide +kernel
theorem dX6_gainByFile_34 : decode cX6_gainByFile 34 = .ok (.aload_n 0, 1) := by decide +kernel
theorem dX6_gainByFile_35 : decode cX6_gainByFile 35 = .ok (.aload_n 1, 1) := by decide +kernel
theorem dX6_gainByFile_36 : decode cX6_gainByFile 36 = .ok (.aload_n 0, 1) := by decide +kernel
theorem dX6_gainByFile_37 : decode cX6_gainByFile 37 = .ok (.getfield 12, 3) := by decide +kernel
theorem dX6_gainByFile_40 : decode cX6_gainByFile 40 = .ok (.sipush 999, 3) := by decide +kernel
theorem dX6_gainByFile_43 : decode cX6_gainByFile 43 = .ok (.invokevirtual 25, 3) := by decide +kernel
theorem dX6_gainByFile_46 : decode cX6_gainByFile 46 = .ok (.isub, 1) := by decide +kernel
theorem dX6_gainByFile_47 : decode cX6_gainByFile 47 = .ok (.bipush 20, 2) := by decide +kernel
theorem dX6_gainByFile_49 : decode cX6_gainByFile 49 = .ok (.isub, 1) := by decide +kernel
theorem dX6_gainByFile_50 : decode cX6_gainByFile 50 = .ok (.ireturn, 1) := by decide +kernel
theorem dX6_habitsThatFit_0 : decode cX6_habitsThatFit 0 = .ok (.iconst 0, 1) := by decide +kernel
theorem dX6_habitsThatFit_1 : decode cX6_habitsThatFit 1 = .ok (.istore 6, 2) := by decide +kernel
theorem dX6_habitsThatFit_3 : decode cX6_habitsThatFit 3 = .ok (.iconst 0, 1) := by decide +kernel
theorem dX6_habitsThatFit_4 : decode cX6_habitsThatFit 4 = .ok (.istore 7, 2) := by decide +kernel
theorem dX6_habitsThatFit_6 : decode cX6_habitsThatFit 6 = .ok (.iload 7, 2) := by decide +kernel
theorem dX6_habitsThatFit_8 : decode cX6_habitsThatFit 8 = .ok (.bipush 9, 2) := by decide +kernel
theorem dX6_habitsThatFit_10 : decode cX6_habitsThatFit 10 = .ok (.if_icmp .gt 52, 3) := by decide +kernel
theorem dX6_habitsThatFit_13 : decode cX6_habitsThatFit 13 = .ok (.aload_n 0, 1) := by decide +kernel
theorem dX6_habitsThatFit_14 : decode cX6_habitsThatFit 14 = .ok (.aload_n 1, 1) := by decide +kernel
theorem dX6_habitsThatFit_15 : decode cX6_habitsThatFit 15 = .ok (.aload_n 2, 1) := by decide +kernel
theorem dX6_habitsThatFit_16 : decode cX6_habitsThatFit 16 = .ok (.iload_n 3, 1) := by decide +kernel
theorem dX6_habitsThatFit_17 : decode cX6_habitsThatFit 17 = .ok (.iload 4, 2) := by decide +kernel
theorem dX6_habitsThatFit_19 : decode cX6_habitsThatFit 19 = .ok (.invokevirtual 29, 3) := by decide +kernel
theorem dX6_habitsThatFit_22 : decode cX6_habitsThatFit 22 = .ok (.aload_n 0, 1) := by decide +kernel
theorem dX6_habitsThatFit_23 : decode cX6_habitsThatFit 23 = .ok (.getfield 12, 3) := by decide +kernel
theorem dX6_habitsThatFit_26 : decode cX6_habitsThatFit 26 = .ok (.getfield 162, 3) := by decide +kernel
theorem dX6_habitsThatFit_29 : decode cX6_habitsThatFit 29 = .ok (.iload 4, 2) := by decide +kernel
theorem dX6_habitsThatFit_31 : decode cX6_habitsThatFit 31 = .ok (.iload 7, 2) := by decide +kernel
theorem dX6_habitsThatFit_33 : decode cX6_habitsThatFit 33 = .ok (.invokestatic 111, 3) := by decide +kernel
theorem dX6_habitsThatFit_36 : decode cX6_habitsThatFit 36 = .ok (.aload_n 0, 1) := by decide +kernel
theorem dX6_habitsThatFit_37 : decode cX6_habitsThatFit 37 = .ok (.aload_n 1, 1) := by decide +kernel
theorem dX6_habitsThatFit_38 : decode cX6_habitsThatFit 38 = .ok (.aload 5, 2) := by decide +kernel
theorem dX6_habitsThatFit_40 : decode cX6_habitsThatFit 40 = .ok (.invokevirtual 165, 3) := by decide +kernel
theorem dX6_habitsThatFit_43 : decode cX6_habitsThatFit 43 = .ok (.iconst (-1), 1) := by decide +kernel
theorem dX6_habitsThatFit_44 : decode cX6_habitsThatFit 44 = .ok (.if_icmp .ne 12, 3) := by decide +kernel
theorem dX6_habitsThatFit_47 : decode cX6_habitsThatFit 47 = .ok (.iload 6, 2) := by decide +kernel
theorem dX6_habitsThatFit_49 : decode cX6_habitsThatFit 49 = .ok (.iconst 1, 1) := by decide +kernel
theorem dX6_habitsThatFit_50 : decode cX6_habitsThatFit 50 = .ok (.iload 7, 2) := by decide +kernel
theorem dX6_habitsThatFit_52 : decode cX6_habitsThatFit 52 = .ok (.ishl, 1) := by decide +kernel
theorem dX6_habitsThatFit_53 : decode cX6_habitsThatFit 53 = .ok (.ior, 1) := by decide +kernel
theorem dX6_habitsThatFit_54 : decode cX6_habitsThatFit 54 = .ok (.istore 6, 2) := by decide +kernel
theorem dX6_habitsThatFit_56 : decode cX6_habitsThatFit 56 = .ok (.iinc 7 1, 3) := by decide +kernel
theorem dX6_habitsThatFit_59 : decode cX6_habitsThatFit 59 = .ok (.goto (-53), 3) := by decide +kernel
theorem dX6_habitsThatFit_62 : decode cX6_habitsThatFit 62 = .ok (.iload 6, 2) := by decide +kernel
theorem dX6_habitsThatFit_64 : decode cX6_habitsThatFit 64 = .ok (.ireturn, 1) := by decide +kernel
theorem dX6_pairThatFits_0 : decode cX6_pairThatFits 0 = .ok (.iconst 0, 1) := by decide +kernel
theorem dX6_pairThatFits_1 : decode cX6_pairThatFits 1 = .ok (.istore 5, 2) := by decide +kernel
theorem dX6_pairThatFits_3 : decode cX6_pairThatFits 3 = .ok (.iconst 0, 1) := by decide +kernel
theorem dX6_pairThatFits_4 : decode cX6_pairThatFits 4 = .ok (.istore 6, 2) := by decide +kernel
theorem dX6_pairThatFits_6 : decode cX6_pairThatFits 6 = .ok (.iload 6, 2) := by decide +kernel
theorem dX6_pairThatFits_8 : decode cX6_pairThatFits 8 = .ok (.aload_n 1, 1) := by decide +kernel
theorem dX6_pairThatFits_9 : decode cX6_pairThatFits 9 = .ok (.getfield 119, 3) := by decide +kernel
theorem dX6_pairThatFits_12 : decode cX6_pairThatFits 12 = .ok (.if_icmp .ge 67, 3) := by decide +kernel
theorem dX6_pairThatFits_15 : decode cX6_pairThatFits 15 = .ok (.iconst 0, 1) := by decide +kernel
theorem dX6_pairThatFits_16 : decode cX6_pairThatFits 16 = .ok (.istore 7, 2) := by decide +kernel
theorem dX6_pairThatFits_18 : decode cX6_pairThatFits 18 = .ok (.iload 7, 2) := by decide +kernel
theorem dX6_pairThatFits_20 : decode cX6_pairThatFits 20 = .ok (.aload_n 1, 1) := by decide +kernel
theorem dX6_pairThatFits_21 : decode cX6_pairThatFits 21 = .ok (.getfield 119, 3) := by decide +kernel
theorem dX6_pairThatFits_24 : decode cX6_pairThatFits 24 = .ok (.if_icmp .ge 49, 3) := by decide +kernel
theorem dX6_pairThatFits_27 : decode cX6_pairThatFits 27 = .ok (.iload 6, 2) := by decide +kernel
theorem dX6_pairThatFits_29 : decode cX6_pairThatFits 29 = .ok (.iload 7, 2) := by decide +kernel
theorem dX6_pairThatFits_31 : decode cX6_pairThatFits 31 = .ok (.if_icmp .eq 36, 3) := by decide +kernel
theorem dX6_pairThatFits_34 : decode cX6_pairThatFits 34 = .ok (.aload_n 0, 1) := by decide +kernel
theorem dX6_pairThatFits_35 : decode cX6_pairThatFits 35 = .ok (.aload_n 1, 1) := by decide +kernel
theorem dX6_pairThatFits_36 : decode cX6_pairThatFits 36 = .ok (.aload_n 2, 1) := by decide +kernel
theorem dX6_pairThatFits_37 : decode cX6_pairThatFits 37 = .ok (.iload 6, 2) := by decide +kernel
theorem dX6_pairThatFits_39 : decode cX6_pairThatFits 39 = .ok (.iload 7, 2) := by decide +kernel
theorem dX6_pairThatFits_41 : decode cX6_pairThatFits 41 = .ok (.aload_n 3, 1) := by decide +kernel
theorem dX6_pairThatFits_42 : decode cX6_pairThatFits 42 = .ok (.invokevirtual 169, 3) := by decide +kernel
theorem dX6_pairThatFits_45 : decode cX6_pairThatFits 45 = .ok (.ifCond .eq 22, 3) := by decide +kernel
theorem dX6_pairThatFits_48 : decode cX6_pairThatFits 48 = .ok (.iload 5, 2) := by decide +kernel
theorem dX6_pairThatFits_50 : decode cX6_pairThatFits 50 = .ok (.iload 4, 2) := by decide +kernel
theorem dX6_pairThatFits_52 : decode cX6_pairThatFits 52 = .ok (.if_icmp .ne 12, 3) := by decide +kernel
theorem dX6_pairThatFits_55 : decode cX6_pairThatFits 55 = .ok (.bipush 10, 2) := by decide +kernel
theorem dX6_pairThatFits_57 : decode cX6_pairThatFits 57 = .ok (.iload 6, 2) := by decide +kernel
theorem dX6_pairThatFits_59 : decode cX6_pairThatFits 59 = .ok (.imul, 1) := by decide +kernel
theorem dX6_pairThatFits_60 : decode cX6_pairThatFits 60 = .ok (.iload 7, 2) := by decide +kernel
theorem dX6_pairThatFits_62 : decode cX6_pairThatFits 62 = .ok (.iadd, 1) := by decide +kernel
theorem dX6_pairThatFits_63 : decode cX6_pairThatFits 63 = .ok (.ireturn, 1) := by decide +kernel
theorem dX6_pairThatFits_64 : decode cX6_pairThatFits 64 = .ok (.iinc 5 1, 3) := by decide +kernel
theorem dX6_pairThatFits_67 : decode cX6_pairThatFits 67 = .ok (.iinc 7 1, 3) := by decide +kernel
theorem dX6_pairThatFits_70 : decode cX6_pairThatFits 70 = .ok (.goto (-52), 3) := by decide +kernel
theorem dX6_pairThatFits_73 : decode cX6_pairThatFits 73 = .ok (.iinc 6 1, 3) := by decide +kernel
theorem dX6_pairThatFits_76 : decode cX6_pairThatFits 76 = .ok (.goto (-70), 3) := by decide +kernel
theorem dX6_pairThatFits_79 : decode cX6_pairThatFits 79 = .ok (.iload 4, 2) := by decide +kernel
theorem dX6_pairThatFits_81 : decode cX6_pairThatFits 81 = .ok (.iconst (-1), 1) := by decide +kernel
theorem dX6_pairThatFits_82 : decode cX6_pairThatFits 82 = .ok (.if_icmp .ne 8, 3) := by decide +kernel
theorem dX6_pairThatFits_85 : decode cX6_pairThatFits 85 = .ok (.iload 5, 2) := by decide +kernel
theorem dX6_pairThatFits_87 : decode cX6_pairThatFits 87 = .ok (.goto 4, 3) := by decide +kernel
theorem dX6_pairThatFits_90 : decode cX6_pairThatFits 90 = .ok (.iconst (-1), 1) := by decide +kernel
theorem dX6_pairThatFits_91 : decode cX6_pairThatFits 91 = .ok (.ireturn, 1) := by decide +kernel
theorem dX6_fits_0 : decode cX6_fits 0 = .ok (.aload_n 0, 1) := by decide +kernel
theorem dX6_fits_1 : decode cX6_fits 1 = .ok (.aload_n 1, 1) := by decide +kernel
theorem dX6_fits_2 : decode cX6_fits 2 = .ok (.aload_n 2, 1) := by decide +kernel
theorem dX6_fits_3 : decode cX6_fits 3 = .ok (.iload_n 3, 1) := by decide +kernel
theorem dX6_fits_4 : decode cX6_fits 4 = .ok (.iload 4, 2) := by decide +kernel
theorem dX6_fits_6 : decode cX6_fits 6 = .ok (.invokevirtual 29, 3) := by decide +kernel
theorem dX6_fits_9 : decode cX6_fits 9 = .ok (.aload_n 0, 1) := by decide +kernel
theorem dX6_fits_10 : decode cX6_fits 10 = .ok (.aload_n 1, 1) := by decide +kernel
theorem dX6_fits_11 : decode cX6_fits 11 = .ok (.aload 5, 2) := by decide +kernel
theorem dX6_fits_13 : decode cX6_fits 13 = .ok (.invokevirtual 165, 3) := by decide +kernel
theorem dX6_fits_16 : decode cX6_fits 16 = .ok (.iconst (-1), 1) := by decide +kernel
theorem dX6_fits_17 : decode cX6_fits 17 = .ok (.if_icmp .ne 7, 3) := by decide +kernel
theorem dX6_fits_20 : decode cX6_fits 20 = .ok (.iconst 1, 1) := by decide +kernel
theorem dX6_fits_21 : decode cX6_fits 21 = .ok (.goto 4, 3) := by decide +kernel
theorem dX6_fits_24 : decode cX6_fits 24 = .ok (.iconst 0, 1) := by decide +kernel
theorem dX6_fits_25 : decode cX6_fits 25 = .ok (.ireturn, 1) := by decide +kernel
theorem dX6_wrongLine_0 : decode cX6_wrongLine 0 = .ok (.aload_n 0, 1) := by decide +kernel
theorem dX6_wrongLine_1 : decode cX6_wrongLine 1 = .ok (.getfield 12, 3) := by decide +kernel
theorem dX6_wrongLine_4 : decode cX6_wrongLine 4 = .ok (.aload_n 2, 1) := by decide +kernel
theorem dX6_wrongLine_5 : decode cX6_wrongLine 5 = .ok (.invokevirtual 21, 3) := by decide +kernel
theorem dX6_wrongLine_8 : decode cX6_wrongLine 8 = .ok (.aload_n 0, 1) := by decide +kernel
theorem dX6_wrongLine_9 : decode cX6_wrongLine 9 = .ok (.aload_n 1, 1) := by decide +kernel
theorem dX6_wrongLine_10 : decode cX6_wrongLine 10 = .ok (.aload_n 3, 1) := by decide +kernel
theorem dX6_wrongLine_11 : decode cX6_wrongLine 11 = .ok (.invokevirtual 165, 3) := by decide +kernel
theorem dX6_wrongLine_14 : decode cX6_wrongLine 14 = .ok (.ireturn, 1) := by decide +kernel
theorem dX6_firstWrong_0 : decode cX6_firstWrong 0 = .ok (.iconst 0, 1) := by decide +kernel
theorem dX6_firstWrong_1 : decode cX6_firstWrong 1 = .ok (.istore_n 3, 1) := by decide +kernel
theorem dX6_firstWrong_2 : decode cX6_firstWrong 2 = .ok (.iload_n 3, 1) := by decide +kernel
theorem dX6_firstWrong_3 : decode cX6_firstWrong 3 = .ok (.aload_n 2, 1) := by decide +kernel
theorem dX6_firstWrong_4 : decode cX6_firstWrong 4 = .ok (.getfield 173, 3) := by decide +kernel
theorem dX6_firstWrong_7 : decode cX6_firstWrong 7 = .ok (.if_icmp .ge 38, 3) := by decide +kernel
theorem dX6_firstWrong_10 : decode cX6_firstWrong 10 = .ok (.aload_n 0, 1) := by decide +kernel
theorem dX6_firstWrong_11 : decode cX6_firstWrong 11 = .ok (.getfield 12, 3) := by decide +kernel
theorem dX6_firstWrong_14 : decode cX6_firstWrong 14 = .ok (.aload_n 1, 1) := by decide +kernel
theorem dX6_firstWrong_15 : decode cX6_firstWrong 15 = .ok (.invokevirtual 52, 3) := by decide +kernel
theorem dX6_firstWrong_18 : decode cX6_firstWrong 18 = .ok (.ifCond .ne 19, 3) := by decide +kernel
theorem dX6_firstWrong_21 : decode cX6_firstWrong 21 = .ok (.aload_n 0, 1) := by decide +kernel
theorem dX6_firstWrong_22 : decode cX6_firstWrong 22 = .ok (.getfield 12, 3) := by decide +kernel
theorem dX6_firstWrong_25 : decode cX6_firstWrong 25 = .ok (.aload_n 1, 1) := by decide +kernel
theorem dX6_firstWrong_26 : decode cX6_firstWrong 26 = .ok (.invokevirtual 56, 3) := by decide +kernel
theorem dX6_firstWrong_29 : decode cX6_firstWrong 29 = .ok (.aload_n 2, 1) := by decide +kernel
theorem dX6_firstWrong_30 : decode cX6_firstWrong 30 = .ok (.iload_n 3, 1) := by decide +kernel
theorem dX6_firstWrong_31 : decode cX6_firstWrong 31 = .ok (.invokevirtual 178, 3) := by decide +kernel
theorem dX6_firstWrong_34 : decode cX6_firstWrong 34 = .ok (.if_icmp .eq 5, 3) := by decide +kernel
theorem dX6_firstWrong_37 : decode cX6_firstWrong 37 = .ok (.iload_n 3, 1) := by decide +kernel
theorem dX6_firstWrong_38 : decode cX6_firstWrong 38 = .ok (.ireturn, 1) := by decide +kernel
theorem dX6_firstWrong_39 : decode cX6_firstWrong 39 = .ok (.iinc 3 1, 3) := by decide +kernel
theorem dX6_firstWrong_42 : decode cX6_firstWrong 42 = .ok (.goto (-40), 3) := by decide +kernel
theorem dX6_firstWrong_45 : decode cX6_firstWrong 45 = .ok (.iconst (-1), 1) := by decide +kernel
theorem dX6_firstWrong_46 : decode cX6_firstWrong 46 = .ok (.ireturn, 1) := by decide +kernel
theorem dX7_init_0 : decode cX7_init 0 = .ok (.aload_n 0, 1) := by decide +kernel
theorem dX7_init_1 : decode cX7_init 1 = .ok (.invokespecial 3, 3) := by decide +kernel
theorem dX7_init_4 : decode cX7_init 4 = .ok (.aload_n 0, 1) := by decide +kernel
theorem dX7_init_5 : decode cX7_init 5 = .ok (.iconst (-1), 1) := by decide +kernel
theorem dX7_init_6 : decode cX7_init 6 = .ok (.putfield 9, 3) := by decide +kernel
theorem dX7_init_9 : decode cX7_init 9 = .ok (.aload_n 0, 1) := by decide +kernel
theorem dX7_init_10 : decode cX7_init 10 = .ok (.iconst (-1), 1) := by decide +kernel
theorem dX7_init_11 : decode cX7_init 11 = .ok (.putfield 15, 3) := by decide +kernel
theorem dX7_init_14 : decode cX7_init 14 = .ok (.aload_n 0, 1) := by decide +kernel
theorem dX7_init_15 : decode cX7_init 15 = .ok (.iconst (-1), 1) := by decide +kernel
theorem dX7_init_16 : decode cX7_init 16 = .ok (.putfield 18, 3) := by decide +kernel
theorem dX7_init_19 : decode cX7_init 19 = .ok (.aload_n 0, 1) := by decide +kernel
theorem dX7_init_20 : decode cX7_init 20 = .ok (.iconst 5, 1) := by decide +kernel
theorem dX7_init_21 : decode cX7_init 21 = .ok (.putfield 21, 3) := by decide +kernel
theorem dX7_init_24 : decode cX7_init 24 = .ok (.aload_n 0, 1) := by decide +kernel
theorem dX7_init_25 : decode cX7_init 25 = .ok (.iconst 4, 1) := by decide +kernel
theorem dX7_init_26 : decode cX7_init 26 = .ok (.newarray .int, 2) := by decide +kernel
theorem dX7_init_28 : decode cX7_init 28 = .ok (.putfield 24, 3) := by decide +kernel
theorem dX7_init_31 : decode cX7_init 31 = .ok (.aload_n 0, 1) := by decide +kernel
theorem dX7_init_32 : decode cX7_init 32 = .ok (.iconst 4, 1) := by decide +kernel
theorem dX7_init_33 : decode cX7_init 33 = .ok (.newarray .int, 2) := by decide +kernel
theorem dX7_init_35 : decode cX7_init 35 = .ok (.putfield 28, 3) := by decide +kernel
theorem dX7_init_38 : decode cX7_init 38 = .ok (.aload_n 0, 1) := by decide +kernel
theorem dX7_init_39 : decode cX7_init 39 = .ok (.iconst 4, 1) := by decide +kernel
theorem dX7_init_40 : decode cX7_init 40 = .ok (.newarray .int, 2) := by decide +kernel
theorem dX7_init_42 : decode cX7_init 42 = .ok (.putfield 31, 3) := by decide +kernel
theorem dX7_init_45 : decode cX7_init 45 = .ok (.aload_n 0, 1) := by decide +kernel
theorem dX7_init_46 : decode cX7_init 46 = .ok (.iconst 4, 1) := by decide +kernel
theorem dX7_init_47 : decode cX7_init 47 = .ok (.newarray .int, 2) := by decide +kernel
theorem dX7_init_49 : decode cX7_init 49 = .ok (.putfield 34, 3) := by decide +kernel
theorem dX7_init_52 : decode cX7_init 52 = .ok (.return_, 1) := by decide +kernel
theorem dX7_become_0 : decode cX7_become 0 = .ok (.aload_n 0, 1) := by decide +kernel
theorem dX7_become_1 : decode cX7_become 1 = .ok (.aload_n 1, 1) := by decide +kernel
theorem dX7_become_2 : decode cX7_become 2 = .ok (.getfield 9, 3) := by decide +kernel
theorem dX7_become_5 : decode cX7_become 5 = .ok (.putfield 9, 3) := by decide +kernel
theorem dX7_become_8 : decode cX7_become 8 = .ok (.aload_n 0, 1) := by decide +kernel
theorem dX7_become_9 : decode cX7_become 9 = .ok (.aload_n 1, 1) := by decide +kernel
theorem dX7_become_10 : decode cX7_become 10 = .ok (.getfield 15, 3) := by decide +kernel
theorem dX7_become_13 : decode cX7_become 13 = .ok (.putfield 15, 3) := by decide +kernel
theorem dX7_become_16 : decode cX7_become 16 = .ok (.aload_n 0, 1) := by decide +kernel
theorem dX7_become_17 : decode cX7_become 17 = .ok (.aload_n 1, 1) := by decide +kernel
theorem dX7_become_18 : decode cX7_become 18 = .ok (.getfield 18, 3) := by decide +kernel
theorem dX7_become_21 : decode cX7_become 21 = .ok (.putfield 18, 3) := by decide +kernel
theorem dX7_become_24 : decode cX7_become 24 = .ok (.aload_n 0, 1) := by decide +kernel
theorem dX7_become_25 : decode cX7_become 25 = .ok (.aload_n 1, 1) := by decide +kernel
theorem dX7_become_26 : decode cX7_become 26 = .ok (.getfield 37, 3) := by decide +kernel
theorem dX7_become_29 : decode cX7_become 29 = .ok (.putfield 37, 3) := by decide +kernel
theorem dX7_become_32 : decode cX7_become 32 = .ok (.aload_n 0, 1) := by decide +kernel
theorem dX7_become_33 : decode cX7_become 33 = .ok (.aload_n 1, 1) := by decide +kernel
theorem dX7_become_34 : decode cX7_become 34 = .ok (.getfield 40, 3) := by decide +kernel
theorem dX7_become_37 : decode cX7_become 37 = .ok (.putfield 40, 3) := by decide +kernel
theorem dX7_become_40 : decode cX7_become 40 = .ok (.aload_n 0, 1) := by decide +kernel
theorem dX7_become_41 : decode cX7_become 41 = .ok (.aload_n 1, 1) := by decide +kernel
theorem dX7_become_42 : decode cX7_become 42 = .ok (.getfield 43, 3) := by decide +kernel
theorem dX7_become_45 : decode cX7_become 45 = .ok (.putfield 43, 3) := by decide +kernel
theorem dX7_become_48 : decode cX7_become 48 = .ok (.aload_n 0, 1) := by decide +kernel
theorem dX7_become_49 : decode cX7_become 49 = .ok (.aload_n 1, 1) := by decide +kernel
theorem dX7_become_50 : decode cX7_become 50 = .ok (.getfield 46, 3) := by decide +kernel
theorem dX7_become_53 : decode cX7_become 53 = .ok (.putfield 46, 3) := by decide +kernel
theorem dX7_become_56 : decode cX7_become 56 = .ok (.aload_n 0, 1) := by decide +kernel
theorem dX7_become_57 : decode cX7_become 57 = .ok (.aload_n 1, 1) := by decide +kernel
theorem dX7_become_58 : decode cX7_become 58 = .ok (.getfield 21, 3) := by decide +kernel
theorem dX7_become_61 : decode cX7_become 61 = .ok (.putfield 21, 3) := by decide +kernel
theorem dX7_become_64 : decode cX7_become 64 = .ok (.aload_n 0, 1) := by decide +kernel
theorem dX7_become_65 : decode cX7_become 65 = .ok (.aload_n 1, 1) := by decide +kernel
theorem dX7_become_66 : decode cX7_become 66 = .ok (.getfield 49, 3) := by decide +kernel
theorem dX7_become_69 : decode cX7_become 69 = .ok (.putfield 49, 3) := by decide +kernel
theorem dX7_become_72 : decode cX7_become 72 = .ok (.aload_n 1, 1) := by decide +kernel
theorem dX7_become_73 : decode cX7_become 73 = .ok (.getfield 24, 3) := by decide +kernel
theorem dX7_become_76 : decode cX7_become 76 = .ok (.aload_n 0, 1) := by decide +kernel
theorem dX7_become_77 : decode cX7_become 77 = .ok (.getfield 24, 3) := by decide +kernel
theorem dX7_become_80 : decode cX7_become 80 = .ok (.invokestatic 53, 3) := by decide +kernel
theorem dX7_become_83 : decode cX7_become 83 = .ok (.aload_n 1, 1) := by decide +kernel
theorem dX7_become_84 : decode cX7_become 84 = .ok (.getfield 28, 3) := by decide +kernel
theorem dX7_become_87 : decode cX7_become 87 = .ok (.aload_n 0, 1) := by decide +kernel
theorem dX7_become_88 : decode cX7_become 88 = .ok (.getfield 28, 3) := by decide +kernel
theorem dX7_become_91 : decode cX7_become 91 = .ok (.invokestatic 53, 3) := by decide +kernel
theorem dX7_become_94 : decode cX7_become 94 = .ok (.aload_n 1, 1) := by decide +kernel
theorem dX7_become_95 : decode cX7_become 95 = .ok (.getfield 31, 3) := by decide +kernel
theorem dX7_become_98 : decode cX7_become 98 = .ok (.aload_n 0, 1) := by decide +kernel
theorem dX7_become_99 : decode cX7_become 99 = .ok (.getfield 31, 3) := by decide +kernel
theorem dX7_become_102 : decode cX7_become 102 = .ok (.invokestatic 53, 3) := by decide +kernel
theorem dX7_become_105 : decode cX7_become 105 = .ok (.aload_n 1, 1) := by decide +kernel
theorem dX7_become_106 : decode cX7_become 106 = .ok (.getfield 34, 3) := by decide +kernel
theorem dX7_become_109 : decode cX7_become 109 = .ok (.aload_n 0, 1) := by decide +kernel
theorem dX7_become_110 : decode cX7_become 110 = .ok (.getfield 34, 3) := by decide +kernel
theorem dX7_become_113 : decode cX7_become 113 = .ok (.invokestatic 53, 3) := by decide +kernel
theorem dX7_become_116 : decode cX7_become 116 = .ok (.return_, 1) := by decide +kernel
theorem dX7_startYard_0 : decode cX7_startYard 0 = .ok (.aload_n 0, 1) := by decide +kernel
theorem dX7_startYard_1 : decode cX7_startYard 1 = .ok (.iconst (-1), 1) := by decide +kernel
theorem dX7_startYard_2 : decode cX7_startYard 2 = .ok (.iconst (-1), 1) := by decide +kernel
theorem dX7_startYard_3 : decode cX7_startYard 3 = .ok (.invokevirtual 59, 3) := by decide +kernel
theorem dX7_startYard_6 : decode cX7_startYard 6 = .ok (.aload_n 0, 1) := by decide +kernel
theorem dX7_startYard_7 : decode cX7_startYard 7 = .ok (.aload_n 1, 1) := by decide +kernel
theorem dX7_startYard_8 : decode cX7_startYard 8 = .ok (.getfield 63, 3) := by decide +kernel
theorem dX7_startYard_11 : decode cX7_startYard 11 = .ok (.putfield 21, 3) := by decide +kernel
theorem dX7_startYard_14 : decode cX7_startYard 14 = .ok (.aload_n 1, 1) := by decide +kernel
theorem dX7_startYard_15 : decode cX7_startYard 15 = .ok (.getfield 66, 3) := by decide +kernel
theorem dX7_startYard_18 : decode cX7_startYard 18 = .ok (.aload_n 0, 1) := by decide +kernel
theorem dX7_startYard_19 : decode cX7_startYard 19 = .ok (.getfield 24, 3) := by decide +kernel
theorem dX7_startYard_22 : decode cX7_startYard 22 = .ok (.invokestatic 53, 3) := by decide +kernel
theorem dX7_startYard_25 : decode cX7_startYard 25 = .ok (.aload_n 1, 1) := by decide +kernel
theorem dX7_startYard_26 : decode cX7_startYard 26 = .ok (.getfield 69, 3) := by decide +kernel
theorem dX7_startYard_29 : decode cX7_startYard 29 = .ok (.aload_n 0, 1) := by decide +kernel
theorem dX7_startYard_30 : decode cX7_startYard 30 = .ok (.getfield 28, 3) := by decide +kernel
theorem dX7_startYard_33 : decode cX7_startYard 33 = .ok (.invokestatic 53, 3) := by decide +kernel
theorem dX7_startYard_36 : decode cX7_startYard 36 = .ok (.return_, 1) := by decide +kernel
theorem dX7_startLog_0 : decode cX7_startLog 0 = .ok (.aload_n 0, 1) := by decide +kernel
theorem dX7_startLog_1 : decode cX7_startLog 1 = .ok (.iload_n 1, 1) := by decide +kernel
theorem dX7_startLog_2 : decode cX7_startLog 2 = .ok (.putfield 9, 3) := by decide +kernel
theorem dX7_startLog_5 : decode cX7_startLog 5 = .ok (.aload_n 0, 1) := by decide +kernel
theorem dX7_startLog_6 : decode cX7_startLog 6 = .ok (.iload_n 2, 1) := by decide +kernel
theorem dX7_startLog_7 : decode cX7_startLog 7 = .ok (.putfield 15, 3) := by decide +kernel
theorem dX7_startLog_10 : decode cX7_startLog 10 = .ok (.aload_n 0, 1) := by decide +kernel
theorem dX7_startLog_11 : decode cX7_startLog 11 = .ok (.iload_n 1, 1) := by decide +kernel
theorem dX7_startLog_12 : decode cX7_startLog 12 = .ok (.putfield 18, 3) := by decide +kernel
theorem dX7_startLog_15 : decode cX7_startLog 15 = .ok (.aload_n 0, 1) := by decide +kernel
theorem dX7_startLog_16 : decode cX7_startLog 16 = .ok (.iconst 0, 1) := by decide +kernel
theorem dX7_startLog_17 : decode cX7_startLog 17 = .ok (.putfield 37, 3) := by decide +kernel
theorem dX7_startLog_20 : decode cX7_startLog 20 = .ok (.aload_n 0, 1) := by decide +kernel
theorem dX7_startLog_21 : decode cX7_startLog 21 = .ok (.iconst 0, 1) := by decide +kernel
theorem dX7_startLog_22 : decode cX7_startLog 22 = .ok (.putfield 40, 3) := by decide +kernel
theorem dX7_startLog_25 : decode cX7_startLog 25 = .ok (.aload_n 0, 1) := by decide +kernel
theorem dX7_startLog_26 : decode cX7_startLog 26 = .ok (.iconst 0, 1) := by decide +kernel
theorem dX7_startLog_27 : decode cX7_startLog 27 = .ok (.putfield 43, 3) := by decide +kernel
theorem dX7_startLog_30 : decode cX7_startLog 30 = .ok (.aload_n 0, 1) := by decide +kernel
theorem dX7_startLog_31 : decode cX7_startLog 31 = .ok (.iconst 0, 1) := by decide +kernel
theorem dX7_startLog_32 : decode cX7_startLog 32 = .ok (.putfield 46, 3) := by decide +kernel
theorem dX7_startLog_35 : decode cX7_startLog 35 = .ok (.aload_n 0, 1) := by decide +kernel
theorem dX7_startLog_36 : decode cX7_startLog 36 = .ok (.iconst 0, 1) := by decide +kernel
theorem dX7_startLog_37 : decode cX7_startLog 37 = .ok (.putfield 49, 3) := by decide +kernel
theorem dX7_startLog_40 : decode cX7_startLog 40 = .ok (.aload_n 0, 1) := by decide +kernel
theorem dX7_startLog_41 : decode cX7_startLog 41 = .ok (.getfield 31, 3) := by decide +kernel
theorem dX7_startLog_44 : decode cX7_startLog 44 = .ok (.iconst 0, 1) := by decide +kernel
theorem dX7_startLog_45 : decode cX7_startLog 45 = .ok (.invokestatic 72, 3) := by decide +kernel
theorem dX7_startLog_48 : decode cX7_startLog 48 = .ok (.aload_n 0, 1) := by decide +kernel
theorem dX7_startLog_49 : decode cX7_startLog 49 = .ok (.getfield 34, 3) := by decide +kernel
theorem dX7_startLog_52 : decode cX7_startLog 52 = .ok (.iconst 0, 1) := by decide +kernel
theorem dX7_startLog_53 : decode cX7_startLog 53 = .ok (.invokestatic 72, 3) := by decide +kernel
theorem dX7_startLog_56 : decode cX7_startLog 56 = .ok (.return_, 1) := by decide +kernel
theorem dX7_hasPair_0 : decode cX7_hasPair 0 = .ok (.aload_n 0, 1) := by decide +kernel
theorem dX7_hasPair_1 : decode cX7_hasPair 1 = .ok (.getfield 9, 3) := by decide +kernel
theorem dX7_hasPair_4 : decode cX7_hasPair 4 = .ok (.iconst (-1), 1) := by decide +kernel
theorem dX7_hasPair_5 : decode cX7_hasPair 5 = .ok (.if_icmp .eq 7, 3) := by decide +kernel
theorem dX7_hasPair_8 : decode cX7_hasPair 8 = .ok (.iconst 1, 1) := by decide +kernel
theorem dX7_hasPair_9 : decode cX7_hasPair 9 = .ok (.goto 4, 3) := by decide +kernel
theorem dX7_hasPair_12 : decode cX7_hasPair 12 = .ok (.iconst 0, 1) := by decide +kernel
theorem dX7_hasPair_13 : decode cX7_hasPair 13 = .ok (.ireturn, 1) := by decide +kernel
theorem dX7_isThrough_0 : decode cX7_isThrough 0 = .ok (.aload_n 1, 1) := by decide +kernel
theorem dX7_isThrough_1 : decode cX7_isThrough 1 = .ok (.getfield 76, 3) := by decide +kernel
theorem dX7_isThrough_4 : decode cX7_isThrough 4 = .ok (.ifCond .le 18, 3) := by decide +kernel
theorem dX7_isThrough_7 : decode cX7_isThrough 7 = .ok (.aload_n 0, 1) := by decide +kernel
theorem dX7_isThrough_8 : decode cX7_isThrough 8 = .ok (.getfield 37, 3) := by decide +kernel
theorem dX7_isThrough_11 : decode cX7_isThrough 11 = .ok (.aload_n 1, 1) := by decide +kernel
theorem dX7_isThrough_12 : decode cX7_isThrough 12 = .ok (.invokevirtual 79, 3) := by decide +kernel
theorem dX7_isThrough_15 : decode cX7_isThrough 15 = .ok (.if_icmp .lt 7, 3) := by decide +kernel
theorem dX7_isThrough_18 : decode cX7_isThrough 18 = .ok (.iconst 1, 1) := by decide +kernel
theorem dX7_isThrough_19 : decode cX7_isThrough 19 = .ok (.goto 4, 3) := by decide +kernel
theorem dX7_isThrough_22 : decode cX7_isThrough 22 = .ok (.iconst 0, 1) := by decide +kernel
theorem dX7_isThrough_23 : decode cX7_isThrough 23 = .ok (.ireturn, 1) := by decide +kernel
theorem dX7_lean_0 : decode cX7_lean 0 = .ok (.aload_n 1, 1) := by decide +kernel
theorem dX7_lean_1 : decode cX7_lean 1 = .ok (.getfield 83, 3) := by decide +kernel
theorem dX7_lean_4 : decode cX7_lean 4 = .ok (.aload_n 0, 1) := by decide +kernel
theorem dX7_lean_5 : decode cX7_lean 5 = .ok (.getfield 9, 3) := by decide +kernel
theorem dX7_lean_8 : decode cX7_lean 8 = .ok (.invokestatic 86, 3) := by decide +kernel
theorem dX7_lean_11 : decode cX7_lean 11 = .ok (.aload_n 1, 1) := by decide +kernel
theorem dX7_lean_12 : decode cX7_lean 12 = .ok (.getfield 83, 3) := by decide +kernel
theorem dX7_lean_15 : decode cX7_lean 15 = .ok (.aload_n 0, 1) := by decide +kernel
theorem dX7_lean_16 : decode cX7_lean 16 = .ok (.getfield 15, 3) := by decide +kernel
theorem dX7_lean_19 : decode cX7_lean 19 = .ok (.invokestatic 86, 3) := by decide +kernel
theorem dX7_lean_22 : decode cX7_lean 22 = .ok (.isub, 1) := by decide +kernel
theorem dX7_lean_23 : decode cX7_lean 23 = .ok (.ireturn, 1) := by decide +kernel
theorem dX7_changeSides_0 : decode cX7_changeSides 0 = .ok (.aload_n 0, 1) := by decide +kernel
theorem dX7_changeSides_1 : decode cX7_changeSides 1 = .ok (.getfield 9, 3) := by decide +kernel
theorem dX7_changeSides_4 : decode cX7_changeSides 4 = .ok (.istore_n 1, 1) := by decide +kernel
theorem dX7_changeSides_5 : decode cX7_changeSides 5 = .ok (.aload_n 0, 1) := by decide +kernel
theorem dX7_changeSides_6 : decode cX7_changeSides 6 = .ok (.aload_n 0, 1) := by decide +kernel
theorem dX7_changeSides_7 : decode cX7_changeSides 7 = .ok (.getfield 15, 3) := by decide +kernel
theorem dX7_changeSides_10 : decode cX7_changeSides 10 = .ok (.putfield 9, 3) := by decide +kernel
theorem dX7_changeSides_13 : decode cX7_changeSides 13 = .ok (.aload_n 0, 1) := by decide +kernel
theorem dX7_changeSides_14 : decode cX7_changeSides 14 = .ok (.iload_n 1, 1) := by decide +kernel
theorem dX7_changeSides_15 : decode cX7_changeSides 15 = .ok (.putfield 15, 3) := by decide +kernel
theorem dX7_changeSides_18 : decode cX7_changeSides 18 = .ok (.return_, 1) := by decide +kernel
theorem dX7_restFor_0 : decode cX7_restFor 0 = .ok (.aload_n 0, 1) := by decide +kernel
theorem dX7_restFor_1 : decode cX7_restFor 1 = .ok (.aload_n 0, 1) := by decide +kernel
theorem dX7_restFor_2 : decode cX7_restFor 2 = .ok (.getfield 9, 3) := by decide +kernel
theorem dX7_restFor_5 : decode cX7_restFor 5 = .ok (.bipush (-3), 2) := by decide +kernel
theorem dX7_restFor_7 : decode cX7_restFor 7 = .ok (.iload_n 1, 1) := by decide +kernel
theorem dX7_restFor_8 : decode cX7_restFor 8 = .ok (.imul, 1) := by decide +kernel
theorem dX7_restFor_9 : decode cX7_restFor 9 = .ok (.invokevirtual 90, 3) := by decide +kernel
theorem dX7_restFor_12 : decode cX7_restFor 12 = .ok (.aload_n 0, 1) := by decide +kernel
theorem dX7_restFor_13 : decode cX7_restFor 13 = .ok (.aload_n 0, 1) := by decide +kernel
theorem dX7_restFor_14 : decode cX7_restFor 14 = .ok (.getfield 15, 3) := by decide +kernel
theorem dX7_restFor_17 : decode cX7_restFor 17 = .ok (.bipush (-3), 2) := by decide +kernel
theorem dX7_restFor_19 : decode cX7_restFor 19 = .ok (.iload_n 1, 1) := by decide +kernel
theorem dX7_restFor_20 : decode cX7_restFor 20 = .ok (.imul, 1) := by decide +kernel
theorem dX7_restFor_21 : decode cX7_restFor 21 = .ok (.invokevirtual 90, 3) := by decide +kernel
theorem dX7_restFor_24 : decode cX7_restFor 24 = .ok (.aload_n 0, 1) := by decide +kernel
theorem dX7_restFor_25 : decode cX7_restFor 25 = .ok (.dup, 1) := by decide +kernel
theorem dX7_restFor_26 : decode cX7_restFor 26 = .ok (.getfield 40, 3) := by decide +kernel
theorem dX7_restFor_29 : decode cX7_restFor 29 = .ok (.iload_n 1, 1) := by decide +kernel
theorem dX7_restFor_30 : decode cX7_restFor 30 = .ok (.iadd, 1) := by decide +kernel
theorem dX7_restFor_31 : decode cX7_restFor 31 = .ok (.putfield 40, 3) := by decide +kernel
theorem dX7_restFor_34 : decode cX7_restFor 34 = .ok (.return_, 1) := by decide +kernel
theorem dX7_pullOnce_0 : decode cX7_pullOnce 0 = .ok (.aload_n 0, 1) := by decide +kernel
theorem dX7_pullOnce_1 : decode cX7_pullOnce 1 = .ok (.getfield 18, 3) := by decide +kernel
theorem dX7_pullOnce_4 : decode cX7_pullOnce 4 = .ok (.istore_n 2, 1) := by decide +kernel
theorem dX7_pullOnce_5 : decode cX7_pullOnce 5 = .ok (.iload_n 2, 1) := by decide +kernel
theorem dX7_pullOnce_6 : decode cX7_pullOnce 6 = .ok (.aload_n 0, 1) := by decide +kernel
theorem dX7_pullOnce_7 : decode cX7_pullOnce 7 = .ok (.getfield 9, 3) := by decide +kernel
theorem dX7_pullOnce_10 : decode cX7_pullOnce 10 = .ok (.if_icmp .ne 10, 3) := by decide +kernel
theorem dX7_pullOnce_13 : decode cX7_pullOnce 13 = .ok (.aload_n 0, 1) := by decide +kernel
theorem dX7_pullOnce_14 : decode cX7_pullOnce 14 = .ok (.getfield 15, 3) := by decide +kernel
theorem dX7_pullOnce_17 : decode cX7_pullOnce 17 = .ok (.goto 7, 3) := by decide +kernel
theorem dX7_pullOnce_20 : decode cX7_pullOnce 20 = .ok (.aload_n 0, 1) := by decide +kernel
theorem dX7_pullOnce_21 : decode cX7_pullOnce 21 = .ok (.getfield 9, 3) := by decide +kernel
theorem dX7_pullOnce_24 : decode cX7_pullOnce 24 = .ok (.istore_n 3, 1) := by decide +kernel
theorem dX7_pullOnce_25 : decode cX7_pullOnce 25 = .ok (.aload_n 0, 1) := by decide +kernel
theorem dX7_pullOnce_26 : decode cX7_pullOnce 26 = .ok (.getfield 28, 3) := by decide +kernel
theorem dX7_pullOnce_29 : decode cX7_pullOnce 29 = .ok (.iload_n 3, 1) := by decide +kernel
theorem dX7_pullOnce_30 : decode cX7_pullOnce 30 = .ok (.invokestatic 86, 3) := by decide +kernel
theorem dX7_pullOnce_33 : decode cX7_pullOnce 33 = .ok (.istore 4, 2) := by decide +kernel
theorem dX7_pullOnce_35 : decode cX7_pullOnce 35 = .ok (.aload_n 0, 1) := by decide +kernel
theorem dX7_pullOnce_36 : decode cX7_pullOnce 36 = .ok (.aload_n 1, 1) := by decide +kernel
theorem dX7_pullOnce_37 : decode cX7_pullOnce 37 = .ok (.aload_n 0, 1) := by decide +kernel
theorem dX7_pullOnce_38 : decode cX7_pullOnce 38 = .ok (.aload_n 1, 1) := by decide +kernel
theorem dX7_pullOnce_39 : decode cX7_pullOnce 39 = .ok (.iload_n 2, 1) := by decide +kernel
theorem dX7_pullOnce_40 : decode cX7_pullOnce 40 = .ok (.iload 4, 2) := by decide +kernel
theorem dX7_pullOnce_42 : decode cX7_pullOnce 42 = .ok (.invokevirtual 93, 3) := by decide +kernel
theorem dX7_pullOnce_45 : decode cX7_pullOnce 45 = .ok (.invokevirtual 97, 3) := by decide +kernel
theorem dX7_pullOnce_48 : decode cX7_pullOnce 48 = .ok (.istore 5, 2) := by decide +kernel
theorem dX7_pullOnce_50 : decode cX7_pullOnce 50 = .ok (.aload_n 0, 1) := by decide +kernel
theorem dX7_pullOnce_51 : decode cX7_pullOnce 51 = .ok (.aload_n 0, 1) := by decide +kernel
theorem dX7_pullOnce_52 : decode cX7_pullOnce 52 = .ok (.getfield 37, 3) := by decide +kernel
theorem dX7_pullOnce_55 : decode cX7_pullOnce 55 = .ok (.iload 5, 2) := by decide +kernel
theorem dX7_pullOnce_57 : decode cX7_pullOnce 57 = .ok (.iadd, 1) := by decide +kernel
theorem dX7_pullOnce_58 : decode cX7_pullOnce 58 = .ok (.aload_n 1, 1) := by decide +kernel
theorem dX7_pullOnce_59 : decode cX7_pullOnce 59 = .ok (.invokevirtual 79, 3) := by decide +kernel
theorem dX7_pullOnce_62 : decode cX7_pullOnce 62 = .ok (.invokestatic 101, 3) := by decide +kernel
theorem dX7_pullOnce_65 : decode cX7_pullOnce 65 = .ok (.putfield 37, 3) := by decide +kernel
theorem dX7_pullOnce_68 : decode cX7_pullOnce 68 = .ok (.aload_n 0, 1) := by decide +kernel
theorem dX7_pullOnce_69 : decode cX7_pullOnce 69 = .ok (.dup, 1) := by decide +kernel
theorem dX7_pullOnce_70 : decode cX7_pullOnce 70 = .ok (.getfield 46, 3) := by decide +kernel
theorem dX7_pullOnce_73 : decode cX7_pullOnce 73 = .ok (.aload_n 1, 1) := by decide +kernel
theorem dX7_pullOnce_74 : decode cX7_pullOnce 74 = .ok (.getfield 107, 3) := by decide +kernel
theorem dX7_pullOnce_77 : decode cX7_pullOnce 77 = .ok (.iadd, 1) := by decide +kernel
theorem dX7_pullOnce_78 : decode cX7_pullOnce 78 = .ok (.putfield 46, 3) := by decide +kernel
theorem dX7_pullOnce_81 : decode cX7_pullOnce 81 = .ok (.aload_n 1, 1) := by decide +kernel
theorem dX7_pullOnce_82 : decode cX7_pullOnce 82 = .ok (.iload 4, 2) := by decide +kernel
theorem dX7_pullOnce_84 : decode cX7_pullOnce 84 = .ok (.invokestatic 110, 3) := by decide +kernel
theorem dX7_pullOnce_87 : decode cX7_pullOnce 87 = .ok (.ifCond .eq 15, 3) := by decide +kernel
theorem dX7_pullOnce_90 : decode cX7_pullOnce 90 = .ok (.aload_n 0, 1) := by decide +kernel
theorem dX7_pullOnce_91 : decode cX7_pullOnce 91 = .ok (.iload_n 2, 1) := by decide +kernel
theorem dX7_pullOnce_92 : decode cX7_pullOnce 92 = .ok (.iconst 2, 1) := by decide +kernel
theorem dX7_pullOnce_93 : decode cX7_pullOnce 93 = .ok (.invokevirtual 90, 3) := by decide +kernel
theorem dX7_pullOnce_96 : decode cX7_pullOnce 96 = .ok (.aload_n 0, 1) := by decide +kernel
theorem dX7_pullOnce_97 : decode cX7_pullOnce 97 = .ok (.iload_n 3, 1) := by decide +kernel
theorem dX7_pullOnce_98 : decode cX7_pullOnce 98 = .ok (.iconst 2, 1) := by decide +kernel
theorem dX7_pullOnce_99 : decode cX7_pullOnce 99 = .ok (.invokevirtual 90, 3) := by decide +kernel
theorem dX7_pullOnce_102 : decode cX7_pullOnce 102 = .ok (.aload_n 0, 1) := by decide +kernel
theorem dX7_pullOnce_103 : decode cX7_pullOnce 103 = .ok (.iload_n 2, 1) := by decide +kernel
theorem dX7_pullOnce_104 : decode cX7_pullOnce 104 = .ok (.aload_n 1, 1) := by decide +kernel
theorem dX7_pullOnce_105 : decode cX7_pullOnce 105 = .ok (.getfield 114, 3) := by decide +kernel
theorem dX7_pullOnce_108 : decode cX7_pullOnce 108 = .ok (.iload_n 2, 1) := by decide +kernel
theorem dX7_pullOnce_109 : decode cX7_pullOnce 109 = .ok (.invokestatic 86, 3) := by decide +kernel
theorem dX7_pullOnce_112 : decode cX7_pullOnce 112 = .ok (.invokevirtual 90, 3) := by decide +kernel
theorem dX7_pullOnce_115 : decode cX7_pullOnce 115 = .ok (.aload_n 0, 1) := by decide +kernel
theorem dX7_pullOnce_116 : decode cX7_pullOnce 116 = .ok (.iload_n 3, 1) := by decide +kernel
theorem dX7_pullOnce_117 : decode cX7_pullOnce 117 = .ok (.iconst (-1), 1) := by decide +kernel
theorem dX7_pullOnce_118 : decode cX7_pullOnce 118 = .ok (.invokevirtual 90, 3) := by decide +kernel
theorem dX7_pullOnce_121 : decode cX7_pullOnce 121 = .ok (.aload_n 0, 1) := by decide +kernel
theorem dX7_pullOnce_122 : decode cX7_pullOnce 122 = .ok (.iload_n 2, 1) := by decide +kernel
theorem dX7_pullOnce_123 : decode cX7_pullOnce 123 = .ok (.aload_n 1, 1) := by decide +kernel
theorem dX7_pullOnce_124 : decode cX7_pullOnce 124 = .ok (.getfield 117, 3) := by decide +kernel
theorem dX7_pullOnce_127 : decode cX7_pullOnce 127 = .ok (.iload_n 2, 1) := by decide +kernel
theorem dX7_pullOnce_128 : decode cX7_pullOnce 128 = .ok (.invokestatic 86, 3) := by decide +kernel
theorem dX7_pullOnce_131 : decode cX7_pullOnce 131 = .ok (.iload 4, 2) := by decide +kernel
theorem dX7_pullOnce_133 : decode cX7_pullOnce 133 = .ok (.invokevirtual 120, 3) := by decide +kernel
theorem dX7_pullOnce_136 : decode cX7_pullOnce 136 = .ok (.iload 5, 2) := by decide +kernel
theorem dX7_pullOnce_138 : decode cX7_pullOnce 138 = .ok (.ifCond .le 17, 3) := by decide +kernel
theorem dX7_pullOnce_141 : decode cX7_pullOnce 141 = .ok (.aload_n 0, 1) := by decide +kernel
theorem dX7_pullOnce_142 : decode cX7_pullOnce 142 = .ok (.dup, 1) := by decide +kernel
theorem dX7_pullOnce_143 : decode cX7_pullOnce 143 = .ok (.getfield 43, 3) := by decide +kernel
theorem dX7_pullOnce_146 : decode cX7_pullOnce 146 = .ok (.aload_n 0, 1) := by decide +kernel
theorem dX7_pullOnce_147 : decode cX7_pullOnce 147 = .ok (.aload_n 1, 1) := by decide +kernel
theorem dX7_pullOnce_148 : decode cX7_pullOnce 148 = .ok (.invokevirtual 124, 3) := by decide +kernel
theorem dX7_pullOnce_151 : decode cX7_pullOnce 151 = .ok (.iadd, 1) := by decide +kernel
theorem dX7_pullOnce_152 : decode cX7_pullOnce 152 = .ok (.putfield 43, 3) := by decide +kernel
theorem dX7_pullOnce_155 : decode cX7_pullOnce 155 = .ok (.aload_n 0, 1) := by decide +kernel
theorem dX7_pullOnce_156 : decode cX7_pullOnce 156 = .ok (.dup, 1) := by decide +kernel
theorem dX7_pullOnce_157 : decode cX7_pullOnce 157 = .ok (.getfield 40, 3) := by decide +kernel
theorem dX7_pullOnce_160 : decode cX7_pullOnce 160 = .ok (.iconst 1, 1) := by decide +kernel
theorem dX7_pullOnce_161 : decode cX7_pullOnce 161 = .ok (.iadd, 1) := by decide +kernel
theorem dX7_pullOnce_162 : decode cX7_pullOnce 162 = .ok (.putfield 40, 3) := by decide +kernel
theorem dX7_pullOnce_165 : decode cX7_pullOnce 165 = .ok (.aload_n 0, 1) := by decide +kernel
theorem dX7_pullOnce_166 : decode cX7_pullOnce 166 = .ok (.iload_n 3, 1) := by decide +kernel
theorem dX7_pullOnce_167 : decode cX7_pullOnce 167 = .ok (.putfield 18, 3) := by decide +kernel
theorem dX7_pullOnce_170 : decode cX7_pullOnce 170 = .ok (.iload 5, 2) := by decide +kernel
theorem dX7_pullOnce_172 : decode cX7_pullOnce 172 = .ok (.ireturn, 1) := by decide +kernel
theorem dX7_pullOf_0 : decode cX7_pullOf 0 = .ok (.aload_n 1, 1) := by decide +kernel
theorem dX7_pullOf_1 : decode cX7_pullOf 1 = .ok (.getfield 66, 3) := by decide +kernel
theorem dX7_pullOf_4 : decode cX7_pullOf 4 = .ok (.iload_n 2, 1) := by decide +kernel
theorem dX7_pullOf_5 : decode cX7_pullOf 5 = .ok (.invokestatic 86, 3) := by decide +kernel
theorem dX7_pullOf_8 : decode cX7_pullOf 8 = .ok (.aload_n 0, 1) := by decide +kernel
theorem dX7_pullOf_9 : decode cX7_pullOf 9 = .ok (.getfield 24, 3) := by decide +kernel
theorem dX7_pullOf_12 : decode cX7_pullOf 12 = .ok (.iload_n 2, 1) := by decide +kernel
theorem dX7_pullOf_13 : decode cX7_pullOf 13 = .ok (.invokestatic 86, 3) := by decide +kernel
theorem dX7_pullOf_16 : decode cX7_pullOf 16 = .ok (.invokestatic 101, 3) := by decide +kernel
theorem dX7_pullOf_19 : decode cX7_pullOf 19 = .ok (.istore 4, 2) := by decide +kernel
theorem dX7_pullOf_21 : decode cX7_pullOf 21 = .ok (.iconst 0, 1) := by decide +kernel
theorem dX7_pullOf_22 : decode cX7_pullOf 22 = .ok (.iload 4, 2) := by decide +kernel
theorem dX7_pullOf_24 : decode cX7_pullOf 24 = .ok (.aload_n 0, 1) := by decide +kernel
theorem dX7_pullOf_25 : decode cX7_pullOf 25 = .ok (.getfield 34, 3) := by decide +kernel
theorem dX7_pullOf_28 : decode cX7_pullOf 28 = .ok (.iload_n 2, 1) := by decide +kernel
theorem dX7_pullOf_29 : decode cX7_pullOf 29 = .ok (.invokestatic 86, 3) := by decide +kernel
theorem dX7_pullOf_32 : decode cX7_pullOf 32 = .ok (.iadd, 1) := by decide +kernel
theorem dX7_pullOf_33 : decode cX7_pullOf 33 = .ok (.aload_n 0, 1) := by decide +kernel
theorem dX7_pullOf_34 : decode cX7_pullOf 34 = .ok (.getfield 31, 3) := by decide +kernel
theorem dX7_pullOf_37 : decode cX7_pullOf 37 = .ok (.iload_n 2, 1) := by decide +kernel
theorem dX7_pullOf_38 : decode cX7_pullOf 38 = .ok (.invokestatic 86, 3) := by decide +kernel
theorem dX7_pullOf_41 : decode cX7_pullOf 41 = .ok (.bipush 10, 2) := by decide +kernel
theorem dX7_pullOf_43 : decode cX7_pullOf 43 = .ok (.idiv, 1) := by decide +kernel
theorem dX7_pullOf_44 : decode cX7_pullOf 44 = .ok (.isub, 1) := by decide +kernel
theorem dX7_pullOf_45 : decode cX7_pullOf 45 = .ok (.invokestatic 128, 3) := by decide +kernel
theorem dX7_pullOf_48 : decode cX7_pullOf 48 = .ok (.istore 5, 2) := by decide +kernel
theorem dX7_pullOf_50 : decode cX7_pullOf 50 = .ok (.aload_n 1, 1) := by decide +kernel
theorem dX7_pullOf_51 : decode cX7_pullOf 51 = .ok (.iload_n 3, 1) := by decide +kernel
theorem dX7_pullOf_52 : decode cX7_pullOf 52 = .ok (.invokestatic 110, 3) := by decide +kernel
theorem dX7_pullOf_55 : decode cX7_pullOf 55 = .ok (.ifCond .eq 9, 3) := by decide +kernel
theorem dX7_pullOf_58 : decode cX7_pullOf 58 = .ok (.iconst 0, 1) := by decide +kernel
theorem dX7_pullOf_59 : decode cX7_pullOf 59 = .ok (.istore 5, 2) := by decide +kernel
theorem dX7_pullOf_61 : decode cX7_pullOf 61 = .ok (.goto 31, 3) := by decide +kernel
theorem dX7_pullOf_64 : decode cX7_pullOf 64 = .ok (.iload_n 3, 1) := by decide +kernel
theorem dX7_pullOf_65 : decode cX7_pullOf 65 = .ok (.iconst 5, 1) := by decide +kernel
theorem dX7_pullOf_66 : decode cX7_pullOf 66 = .ok (.if_icmp .le 15, 3) := by decide +kernel
theorem dX7_pullOf_69 : decode cX7_pullOf 69 = .ok (.iload 5, 2) := by decide +kernel
theorem dX7_pullOf_71 : decode cX7_pullOf 71 = .ok (.iload 5, 2) := by decide +kernel
theorem dX7_pullOf_73 : decode cX7_pullOf 73 = .ok (.iconst 2, 1) := by decide +kernel
theorem dX7_pullOf_74 : decode cX7_pullOf 74 = .ok (.idiv, 1) := by decide +kernel
theorem dX7_pullOf_75 : decode cX7_pullOf 75 = .ok (.iadd, 1) := by decide +kernel
theorem dX7_pullOf_76 : decode cX7_pullOf 76 = .ok (.istore 5, 2) := by decide +kernel
theorem dX7_pullOf_78 : decode cX7_pullOf 78 = .ok (.goto 14, 3) := by decide +kernel
theorem dX7_pullOf_81 : decode cX7_pullOf 81 = .ok (.iload_n 3, 1) := by decide +kernel
theorem dX7_pullOf_82 : decode cX7_pullOf 82 = .ok (.iconst 5, 1) := by decide +kernel
theorem dX7_pullOf_83 : decode cX7_pullOf 83 = .ok (.if_icmp .ge 9, 3) := by decide +kernel
theorem dX7_pullOf_86 : decode cX7_pullOf 86 = .ok (.iload 5, 2) := by decide +kernel
theorem dX7_pullOf_88 : decode cX7_pullOf 88 = .ok (.iload_n 3, 1) := by decide +kernel
theorem dX7_pullOf_89 : decode cX7_pullOf 89 = .ok (.isub, 1) := by decide +kernel
theorem dX7_pullOf_90 : decode cX7_pullOf 90 = .ok (.istore 5, 2) := by decide +kernel
theorem dX7_pullOf_92 : decode cX7_pullOf 92 = .ok (.iload 5, 2) := by decide +kernel
theorem dX7_pullOf_94 : decode cX7_pullOf 94 = .ok (.aload_n 0, 1) := by decide +kernel
theorem dX7_pullOf_95 : decode cX7_pullOf 95 = .ok (.getfield 46, 3) := by decide +kernel
theorem dX7_pullOf_98 : decode cX7_pullOf 98 = .ok (.bipush 10, 2) := by decide +kernel
theorem dX7_pullOf_100 : decode cX7_pullOf 100 = .ok (.idiv, 1) := by decide +kernel
theorem dX7_pullOf_101 : decode cX7_pullOf 101 = .ok (.isub, 1) := by decide +kernel
theorem dX7_pullOf_102 : decode cX7_pullOf 102 = .ok (.istore 5, 2) := by decide +kernel
theorem dX7_pullOf_104 : decode cX7_pullOf 104 = .ok (.aload_n 0, 1) := by decide +kernel
theorem dX7_pullOf_105 : decode cX7_pullOf 105 = .ok (.getfield 49, 3) := by decide +kernel
theorem dX7_pullOf_108 : decode cX7_pullOf 108 = .ok (.ifCond .ne 23, 3) := by decide +kernel
theorem dX7_pullOf_111 : decode cX7_pullOf 111 = .ok (.aload_n 0, 1) := by decide +kernel
theorem dX7_pullOf_112 : decode cX7_pullOf 112 = .ok (.getfield 37, 3) := by decide +kernel
theorem dX7_pullOf_115 : decode cX7_pullOf 115 = .ok (.bipush 100, 2) := by decide +kernel
theorem dX7_pullOf_117 : decode cX7_pullOf 117 = .ok (.idiv, 1) := by decide +kernel
theorem dX7_pullOf_118 : decode cX7_pullOf 118 = .ok (.aload_n 1, 1) := by decide +kernel
theorem dX7_pullOf_119 : decode cX7_pullOf 119 = .ok (.getfield 131, 3) := by decide +kernel
theorem dX7_pullOf_122 : decode cX7_pullOf 122 = .ok (.if_icmp .lt 9, 3) := by decide +kernel
theorem dX7_pullOf_125 : decode cX7_pullOf 125 = .ok (.iload 5, 2) := by decide +kernel
theorem dX7_pullOf_127 : decode cX7_pullOf 127 = .ok (.iconst 2, 1) := by decide +kernel
theorem dX7_pullOf_128 : decode cX7_pullOf 128 = .ok (.idiv, 1) := by decide +kernel
theorem dX7_pullOf_129 : decode cX7_pullOf 129 = .ok (.istore 5, 2) := by decide +kernel
theorem dX7_pullOf_131 : decode cX7_pullOf 131 = .ok (.iconst 0, 1) := by decide +kernel
theorem dX7_pullOf_132 : decode cX7_pullOf 132 = .ok (.iload 5, 2) := by decide +kernel
theorem dX7_pullOf_134 : decode cX7_pullOf 134 = .ok (.invokestatic 128, 3) := by decide +kernel
theorem dX7_pullOf_137 : decode cX7_pullOf 137 = .ok (.ireturn, 1) := by decide +kernel
theorem dX7_buckles_0 : decode cX7_buckles 0 = .ok (.iload_n 1, 1) := by decide +kernel
theorem dX7_buckles_1 : decode cX7_buckles 1 = .ok (.iconst 5, 1) := by decide +kernel
theorem dX7_buckles_2 : decode cX7_buckles 2 = .ok (.if_icmp .le 17, 3) := by decide +kernel
theorem dX7_buckles_5 : decode cX7_buckles 5 = .ok (.iload_n 1, 1) := by decide +kernel
theorem dX7_buckles_6 : decode cX7_buckles 6 = .ok (.iconst 5, 1) := by decide +kernel
theorem dX7_buckles_7 : decode cX7_buckles 7 = .ok (.isub, 1) := by decide +kernel
theorem dX7_buckles_8 : decode cX7_buckles 8 = .ok (.aload_n 0, 1) := by decide +kernel
theorem dX7_buckles_9 : decode cX7_buckles 9 = .ok (.getfield 134, 3) := by decide +kernel
theorem dX7_buckles_12 : decode cX7_buckles 12 = .ok (.if_icmp .le 7, 3) := by decide +kernel
theorem dX7_buckles_15 : decode cX7_buckles 15 = .ok (.iconst 1, 1) := by decide +kernel
theorem dX7_buckles_16 : decode cX7_buckles 16 = .ok (.goto 4, 3) := by decide +kernel
theorem dX7_buckles_19 : decode cX7_buckles 19 = .ok (.iconst 0, 1) := by decide +kernel
theorem dX7_buckles_20 : decode cX7_buckles 20 = .ok (.ireturn, 1) := by decide +kernel
theorem dX7_cutBy_0 : decode cX7_cutBy 0 = .ok (.aload_n 1, 1) := by decide +kernel
theorem dX7_cutBy_1 : decode cX7_cutBy 1 = .ok (.getfield 137, 3) := by decide +kernel
theorem dX7_cutBy_4 : decode cX7_cutBy 4 = .ok (.aload_n 0, 1) := by decide +kernel
theorem dX7_cutBy_5 : decode cX7_cutBy 5 = .ok (.getfield 37, 3) := by decide +kernel
theorem dX7_cutBy_8 : decode cX7_cutBy 8 = .ok (.bipush 100, 2) := by decide +kernel
theorem dX7_cutBy_10 : decode cX7_cutBy 10 = .ok (.idiv, 1) := by decide +kernel
theorem dX7_cutBy_11 : decode cX7_cutBy 11 = .ok (.invokestatic 86, 3) := by decide +kernel
theorem dX7_cutBy_14 : decode cX7_cutBy 14 = .ok (.istore_n 3, 1) := by decide +kernel
theorem dX7_cutBy_15 : decode cX7_cutBy 15 = .ok (.iload_n 3, 1) := by decide +kernel
theorem dX7_cutBy_16 : decode cX7_cutBy 16 = .ok (.ifCond .le 14, 3) := by decide +kernel
theorem dX7_cutBy_19 : decode cX7_cutBy 19 = .ok (.iload_n 2, 1) := by decide +kernel
theorem dX7_cutBy_20 : decode cX7_cutBy 20 = .ok (.aload_n 0, 1) := by decide +kernel
theorem dX7_cutBy_21 : decode cX7_cutBy 21 = .ok (.getfield 21, 3) := by decide +kernel
theorem dX7_cutBy_24 : decode cX7_cutBy 24 = .ok (.imul, 1) := by decide +kernel
theorem dX7_cutBy_25 : decode cX7_cutBy 25 = .ok (.iload_n 3, 1) := by decide +kernel
theorem dX7_cutBy_26 : decode cX7_cutBy 26 = .ok (.idiv, 1) := by decide +kernel
theorem dX7_cutBy_27 : decode cX7_cutBy 27 = .ok (.goto 4, 3) := by decide +kernel
theorem dX7_cutBy_30 : decode cX7_cutBy 30 = .ok (.iconst 0, 1) := by decide +kernel
theorem dX7_cutBy_31 : decode cX7_cutBy 31 = .ok (.ireturn, 1) := by decide +kernel
theorem dX7_tire_0 : decode cX7_tire 0 = .ok (.aload_n 0, 1) := by decide +kernel
theorem dX7_tire_1 : decode cX7_tire 1 = .ok (.getfield 31, 3) := by decide +kernel
theorem dX7_tire_4 : decode cX7_tire 4 = .ok (.iload_n 1, 1) := by decide +kernel
theorem dX7_tire_5 : decode cX7_tire 5 = .ok (.sipush 999, 3) := by decide +kernel
theorem dX7_tire_8 : decode cX7_tire 8 = .ok (.iconst 0, 1) := by decide +kernel
theorem dX7_tire_9 : decode cX7_tire 9 = .ok (.aload_n 0, 1) := by decide +kernel
theorem dX7_tire_10 : decode cX7_tire 10 = .ok (.getfield 31, 3) := by decide +kernel
theorem dX7_tire_13 : decode cX7_tire 13 = .ok (.iload_n 1, 1) := by decide +kernel
theorem dX7_tire_14 : decode cX7_tire 14 = .ok (.invokestatic 86, 3) := by decide +kernel
theorem dX7_tire_17 : decode cX7_tire 17 = .ok (.iload_n 2, 1) := by decide +kernel
theorem dX7_tire_18 : decode cX7_tire 18 = .ok (.iadd, 1) := by decide +kernel
theorem dX7_tire_19 : decode cX7_tire 19 = .ok (.invokestatic 128, 3) := by decide +kernel
theorem dX7_tire_22 : decode cX7_tire 22 = .ok (.invokestatic 101, 3) := by decide +kernel
theorem dX7_tire_25 : decode cX7_tire 25 = .ok (.invokestatic 140, 3) := by decide +kernel
theorem dX7_tire_28 : decode cX7_tire 28 = .ok (.return_, 1) := by decide +kernel
theorem dX7_feel_0 : decode cX7_feel 0 = .ok (.aload_n 0, 1) := by decide +kernel
theorem dX7_feel_1 : decode cX7_feel 1 = .ok (.getfield 34, 3) := by decide +kernel
theorem dX7_feel_4 : decode cX7_feel 4 = .ok (.iload_n 1, 1) := by decide +kernel
theorem dX7_feel_5 : decode cX7_feel 5 = .ok (.invokestatic 86, 3) := by decide +kernel
theorem dX7_feel_8 : decode cX7_feel 8 = .ok (.istore 4, 2) := by decide +kernel
theorem dX7_feel_10 : decode cX7_feel 10 = .ok (.iload_n 3, 1) := by decide +kernel
theorem dX7_feel_11 : decode cX7_feel 11 = .ok (.iconst 1, 1) := by decide +kernel
theorem dX7_feel_12 : decode cX7_feel 12 = .ok (.if_icmp .lt 35, 3) := by decide +kernel
theorem dX7_feel_15 : decode cX7_feel 15 = .ok (.iload_n 3, 1) := by decide +kernel
theorem dX7_feel_16 : decode cX7_feel 16 = .ok (.iconst 5, 1) := by decide +kernel
theorem dX7_feel_17 : decode cX7_feel 17 = .ok (.if_icmp .ge 30, 3) := by decide +kernel
theorem dX7_feel_20 : decode cX7_feel 20 = .ok (.iload 4, 2) := by decide +kernel
theorem dX7_feel_22 : decode cX7_feel 22 = .ok (.iload_n 2, 1) := by decide +kernel
theorem dX7_feel_23 : decode cX7_feel 23 = .ok (.iconst 1, 1) := by decide +kernel
theorem dX7_feel_24 : decode cX7_feel 24 = .ok (.if_icmp .ne 7, 3) := by decide +kernel
theorem dX7_feel_27 : decode cX7_feel 27 = .ok (.iconst 1, 1) := by decide +kernel
theorem dX7_feel_28 : decode cX7_feel 28 = .ok (.goto 13, 3) := by decide +kernel
theorem dX7_feel_31 : decode cX7_feel 31 = .ok (.iload_n 2, 1) := by decide +kernel
theorem dX7_feel_32 : decode cX7_feel 32 = .ok (.iconst 2, 1) := by decide +kernel
theorem dX7_feel_33 : decode cX7_feel 33 = .ok (.if_icmp .ne 7, 3) := by decide +kernel
theorem dX7_feel_36 : decode cX7_feel 36 = .ok (.iconst (-1), 1) := by decide +kernel
theorem dX7_feel_37 : decode cX7_feel 37 = .ok (.goto 4, 3) := by decide +kernel
theorem dX7_feel_40 : decode cX7_feel 40 = .ok (.iconst 0, 1) := by decide +kernel
theorem dX7_feel_41 : decode cX7_feel 41 = .ok (.iadd, 1) := by decide +kernel
theorem dX7_feel_42 : decode cX7_feel 42 = .ok (.istore 4, 2) := by decide +kernel
theorem dX7_feel_44 : decode cX7_feel 44 = .ok (.goto 23, 3) := by decide +kernel
theorem dX7_feel_47 : decode cX7_feel 47 = .ok (.iload 4, 2) := by decide +kernel
theorem dX7_feel_49 : decode cX7_feel 49 = .ok (.ifCond .eq 18, 3) := by decide +kernel
theorem dX7_feel_52 : decode cX7_feel 52 = .ok (.iload 4, 2) := by decide +kernel
theorem dX7_feel_54 : decode cX7_feel 54 = .ok (.iload 4, 2) := by decide +kernel
theorem dX7_feel_56 : decode cX7_feel 56 = .ok (.ifCond .le 7, 3) := by decide +kernel
theorem dX7_feel_59 : decode cX7_feel 59 = .ok (.iconst (-1), 1) := by decide +kernel
theorem dX7_feel_60 : decode cX7_feel 60 = .ok (.goto 4, 3) := by decide +kernel
theorem dX7_feel_63 : decode cX7_feel 63 = .ok (.iconst 1, 1) := by decide +kernel
theorem dX7_feel_64 : decode cX7_feel 64 = .ok (.iadd, 1) := by decide +kernel
theorem dX7_feel_65 : decode cX7_feel 65 = .ok (.istore 4, 2) := by decide +kernel
theorem dX7_feel_67 : decode cX7_feel 67 = .ok (.aload_n 0, 1) := by decide +kernel
theorem dX7_feel_68 : decode cX7_feel 68 = .ok (.getfield 34, 3) := by decide +kernel
theorem dX7_feel_71 : decode cX7_feel 71 = .ok (.iload_n 1, 1) := by decide +kernel
theorem dX7_feel_72 : decode cX7_feel 72 = .ok (.bipush 9, 2) := by decide +kernel
theorem dX7_feel_74 : decode cX7_feel 74 = .ok (.bipush (-9), 2) := by decide +kernel
theorem dX7_feel_76 : decode cX7_feel 76 = .ok (.iload 4, 2) := by decide +kernel
theorem dX7_feel_78 : decode cX7_feel 78 = .ok (.invokestatic 128, 3) := by decide +kernel
theorem dX7_feel_81 : decode cX7_feel 81 = .ok (.invokestatic 101, 3) := by decide +kernel
theorem dX7_feel_84 : decode cX7_feel 84 = .ok (.invokestatic 140, 3) := by decide +kernel
theorem dX7_feel_87 : decode cX7_feel 87 = .ok (.return_, 1) := by decide +kernel
theorem dX7_hasQuarrel_0 : decode cX7_hasQuarrel 0 = .ok (.aload_n 0, 1) := by decide +kernel
theorem dX7_hasQuarrel_1 : decode cX7_hasQuarrel 1 = .ok (.getfield 34, 3) := by decide +kernel
theorem dX7_hasQuarrel_4 : decode cX7_hasQuarrel 4 = .ok (.aload_n 0, 1) := by decide +kernel
theorem dX7_hasQuarrel_5 : decode cX7_hasQuarrel 5 = .ok (.getfield 9, 3) := by decide +kernel
theorem dX7_hasQuarrel_8 : decode cX7_hasQuarrel 8 = .ok (.invokestatic 86, 3) := by decide +kernel
theorem dX7_hasQuarrel_11 : decode cX7_hasQuarrel 11 = .ok (.invokestatic 144, 3) := by decide +kernel
theorem dX7_hasQuarrel_14 : decode cX7_hasQuarrel 14 = .ok (.bipush 9, 2) := by decide +kernel
theorem dX7_hasQuarrel_16 : decode cX7_hasQuarrel 16 = .ok (.if_icmp .ge 22, 3) := by decide +kernel
theorem dX7_hasQuarrel_19 : decode cX7_hasQuarrel 19 = .ok (.aload_n 0, 1) := by decide +kernel
theorem dX7_hasQuarrel_20 : decode cX7_hasQuarrel 20 = .ok (.getfield 34, 3) := by decide +kernel
theorem dX7_hasQuarrel_23 : decode cX7_hasQuarrel 23 = .ok (.aload_n 0, 1) := by decide +kernel
theorem dX7_hasQuarrel_24 : decode cX7_hasQuarrel 24 = .ok (.getfield 15, 3) := by decide +kernel
theorem dX7_hasQuarrel_27 : decode cX7_hasQuarrel 27 = .ok (.invokestatic 86, 3) := by decide +kernel
theorem dX7_hasQuarrel_30 : decode cX7_hasQuarrel 30 = .ok (.invokestatic 144, 3) := by decide +kernel
theorem dX7_hasQuarrel_33 : decode cX7_hasQuarrel 33 = .ok (.bipush 9, 2) := by decide +kernel
theorem dX7_hasQuarrel_35 : decode cX7_hasQuarrel 35 = .ok (.if_icmp .lt 7, 3) := by decide +kernel
theorem dX7_hasQuarrel_38 : decode cX7_hasQuarrel 38 = .ok (.iconst 1, 1) := by decide +kernel
theorem dX7_hasQuarrel_39 : decode cX7_hasQuarrel 39 = .ok (.goto 4, 3) := by decide +kernel
theorem dX7_hasQuarrel_42 : decode cX7_hasQuarrel 42 = .ok (.iconst 0, 1) := by decide +kernel
theorem dX7_hasQuarrel_43 : decode cX7_hasQuarrel 43 = .ok (.ireturn, 1) := by decide +kernel
theorem dX8_init_0 : decode cX8_init 0 = .ok (.aload_n 0, 1) := by decide +kernel
theorem dX8_init_1 : decode cX8_init 1 = .ok (.invokespecial 3, 3) := by decide +kernel
theorem dX8_init_4 : decode cX8_init 4 = .ok (.aload_n 0, 1) := by decide +kernel
theorem dX8_init_5 : decode cX8_init 5 = .ok (.iconst 5, 1) := by decide +kernel
theorem dX8_init_6 : decode cX8_init 6 = .ok (.putfield 9, 3) := by decide +kernel
theorem dX8_init_9 : decode cX8_init 9 = .ok (.aload_n 0, 1) := by decide +kernel
theorem dX8_init_10 : decode cX8_init 10 = .ok (.iconst 2, 1) := by decide +kernel
theorem dX8_init_11 : decode cX8_init 11 = .ok (.putfield 15, 3) := by decide +kernel
theorem dX8_init_14 : decode cX8_init 14 = .ok (.aload_n 0, 1) := by decide +kernel
theorem dX8_init_15 : decode cX8_init 15 = .ok (.iconst 0, 1) := by decide +kernel
theorem dX8_init_16 : decode cX8_init 16 = .ok (.putfield 18, 3) := by decide +kernel
theorem dX8_init_19 : decode cX8_init 19 = .ok (.aload_n 0, 1) := by decide +kernel
theorem dX8_init_20 : decode cX8_init 20 = .ok (.bipush 12, 2) := by decide +kernel
theorem dX8_init_22 : decode cX8_init 22 = .ok (.putfield 21, 3) := by decide +kernel
theorem dX8_init_25 : decode cX8_init 25 = .ok (.aload_n 0, 1) := by decide +kernel
theorem dX8_init_26 : decode cX8_init 26 = .ok (.bipush 12, 2) := by decide +kernel
theorem dX8_init_28 : decode cX8_init 28 = .ok (.newarray .int, 2) := by decide +kernel
theorem dX8_init_30 : decode cX8_init 30 = .ok (.putfield 24, 3) := by decide +kernel
theorem dX8_init_33 : decode cX8_init 33 = .ok (.aload_n 0, 1) := by decide +kernel
theorem dX8_init_34 : decode cX8_init 34 = .ok (.iconst 4, 1) := by decide +kernel
theorem dX8_init_35 : decode cX8_init 35 = .ok (.newarray .int, 2) := by decide +kernel
theorem dX8_init_37 : decode cX8_init 37 = .ok (.putfield 28, 3) := by decide +kernel
theorem dX8_init_40 : decode cX8_init 40 = .ok (.aload_n 0, 1) := by decide +kernel
theorem dX8_init_41 : decode cX8_init 41 = .ok (.iconst 4, 1) := by decide +kernel
theorem dX8_init_42 : decode cX8_init 42 = .ok (.newarray .int, 2) := by decide +kernel
theorem dX8_init_44 : decode cX8_init 44 = .ok (.putfield 31, 3) := by decide +kernel
theorem dX8_init_47 : decode cX8_init 47 = .ok (.aload_n 0, 1) := by decide +kernel
theorem dX8_init_48 : decode cX8_init 48 = .ok (.iconst 4, 1) := by decide +kernel
theorem dX8_init_49 : decode cX8_init 49 = .ok (.newarray .int, 2) := by decide +kernel
theorem dX8_init_51 : decode cX8_init 51 = .ok (.putfield 34, 3) := by decide +kernel
theorem dX8_init_54 : decode cX8_init 54 = .ok (.aload_n 0, 1) := by decide +kernel
theorem dX8_init_55 : decode cX8_init 55 = .ok (.iconst 4, 1) := by decide +kernel
theorem dX8_init_56 : decode cX8_init 56 = .ok (.newarray .int, 2) := by decide +kernel
theorem dX8_init_58 : decode cX8_init 58 = .ok (.putfield 37, 3) := by decide +kernel
theorem dX8_init_61 : decode cX8_init 61 = .ok (.aload_n 0, 1) := by decide +kernel
theorem dX8_init_62 : decode cX8_init 62 = .ok (.iconst 4, 1) := by decide +kernel
theorem dX8_init_63 : decode cX8_init 63 = .ok (.newarray .int, 2) := by decide +kernel
theorem dX8_init_65 : decode cX8_init 65 = .ok (.putfield 40, 3) := by decide +kernel
theorem dX8_init_68 : decode cX8_init 68 = .ok (.return_, 1) := by decide +kernel
theorem dX8_clear_0 : decode cX8_clear 0 = .ok (.aload_n 0, 1) := by decide +kernel
theorem dX8_clear_1 : decode cX8_clear 1 = .ok (.iconst 0, 1) := by decide +kernel
theorem dX8_clear_2 : decode cX8_clear 2 = .ok (.putfield 43, 3) := by decide +kernel
theorem dX8_clear_5 : decode cX8_clear 5 = .ok (.aload_n 0, 1) := by decide +kernel
theorem dX8_clear_6 : decode cX8_clear 6 = .ok (.iconst 0, 1) := by decide +kernel
theorem dX8_clear_7 : decode cX8_clear 7 = .ok (.putfield 46, 3) := by decide +kernel
theorem dX8_clear_10 : decode cX8_clear 10 = .ok (.aload_n 0, 1) := by decide +kernel
theorem dX8_clear_11 : decode cX8_clear 11 = .ok (.iconst 5, 1) := by decide +kernel
theorem dX8_clear_12 : decode cX8_clear 12 = .ok (.putfield 9, 3) := by decide +kernel
theorem dX8_clear_15 : decode cX8_clear 15 = .ok (.aload_n 0, 1) := by decide +kernel
theorem dX8_clear_16 : decode cX8_clear 16 = .ok (.iconst 2, 1) := by decide +kernel
theorem dX8_clear_17 : decode cX8_clear 17 = .ok (.putfield 15, 3) := by decide +kernel
theorem dX8_clear_20 : decode cX8_clear 20 = .ok (.aload_n 0, 1) := by decide +kernel
theorem dX8_clear_21 : decode cX8_clear 21 = .ok (.iconst 0, 1) := by decide +kernel
theorem dX8_clear_22 : decode cX8_clear 22 = .ok (.putfield 18, 3) := by decide +kernel
theorem dX8_clear_25 : decode cX8_clear 25 = .ok (.aload_n 0, 1) := by decide +kernel
theorem dX8_clear_26 : decode cX8_clear 26 = .ok (.bipush 12, 2) := by decide +kernel
theorem dX8_clear_28 : decode cX8_clear 28 = .ok (.putfield 21, 3) := by decide +kernel
theorem dX8_clear_31 : decode cX8_clear 31 = .ok (.return_, 1) := by decide +kernel
theorem dX8_become_0 : decode cX8_become 0 = .ok (.aload_n 0, 1) := by decide +kernel
theorem dX8_become_1 : decode cX8_become 1 = .ok (.aload_n 1, 1) := by decide +kernel
theorem dX8_become_2 : decode cX8_become 2 = .ok (.getfield 43, 3) := by decide +kernel
theorem dX8_become_5 : decode cX8_become 5 = .ok (.putfield 43, 3) := by decide +kernel
theorem dX8_become_8 : decode cX8_become 8 = .ok (.aload_n 0, 1) := by decide +kernel
theorem dX8_become_9 : decode cX8_become 9 = .ok (.aload_n 1, 1) := by decide +kernel
theorem dX8_become_10 : decode cX8_become 10 = .ok (.getfield 46, 3) := by decide +kernel
theorem dX8_become_13 : decode cX8_become 13 = .ok (.putfield 46, 3) := by decide +kernel
theorem dX8_become_16 : decode cX8_become 16 = .ok (.aload_n 0, 1) := by decide +kernel
theorem dX8_become_17 : decode cX8_become 17 = .ok (.aload_n 1, 1) := by decide +kernel
theorem dX8_become_18 : decode cX8_become 18 = .ok (.getfield 9, 3) := by decide +kernel
theorem dX8_become_21 : decode cX8_become 21 = .ok (.putfield 9, 3) := by decide +kernel
theorem dX8_become_24 : decode cX8_become 24 = .ok (.aload_n 0, 1) := by decide +kernel
theorem dX8_become_25 : decode cX8_become 25 = .ok (.aload_n 1, 1) := by decide +kernel
theorem dX8_become_26 : decode cX8_become 26 = .ok (.getfield 15, 3) := by decide +kernel
theorem dX8_become_29 : decode cX8_become 29 = .ok (.putfield 15, 3) := by decide +kernel
theorem dX8_become_32 : decode cX8_become 32 = .ok (.aload_n 0, 1) := by decide +kernel
theorem dX8_become_33 : decode cX8_become 33 = .ok (.aload_n 1, 1) := by decide +kernel
theorem dX8_become_34 : decode cX8_become 34 = .ok (.getfield 18, 3) := by decide +kernel
theorem dX8_become_37 : decode cX8_become 37 = .ok (.putfield 18, 3) := by decide +kernel
theorem dX8_become_40 : decode cX8_become 40 = .ok (.aload_n 0, 1) := by decide +kernel
theorem dX8_become_41 : decode cX8_become 41 = .ok (.aload_n 1, 1) := by decide +kernel
theorem dX8_become_42 : decode cX8_become 42 = .ok (.getfield 21, 3) := by decide +kernel
theorem dX8_become_45 : decode cX8_become 45 = .ok (.putfield 21, 3) := by decide +kernel
theorem dX8_become_48 : decode cX8_become 48 = .ok (.aload_n 1, 1) := by decide +kernel
theorem dX8_become_49 : decode cX8_become 49 = .ok (.getfield 24, 3) := by decide +kernel
theorem dX8_become_52 : decode cX8_become 52 = .ok (.aload_n 0, 1) := by decide +kernel
theorem dX8_become_53 : decode cX8_become 53 = .ok (.getfield 24, 3) := by decide +kernel
theorem dX8_become_56 : decode cX8_become 56 = .ok (.invokestatic 49, 3) := by decide +kernel
theorem dX8_become_59 : decode cX8_become 59 = .ok (.aload_n 1, 1) := by decide +kernel
theorem dX8_become_60 : decode cX8_become 60 = .ok (.getfield 28, 3) := by decide +kernel
theorem dX8_become_63 : decode cX8_become 63 = .ok (.aload_n 0, 1) := by decide +kernel
theorem dX8_become_64 : decode cX8_become 64 = .ok (.getfield 28, 3) := by decide +kernel
theorem dX8_become_67 : decode cX8_become 67 = .ok (.invokestatic 49, 3) := by decide +kernel
theorem dX8_become_70 : decode cX8_become 70 = .ok (.aload_n 1, 1) := by decide +kernel
theorem dX8_become_71 : decode cX8_become 71 = .ok (.getfield 31, 3) := by decide +kernel
theorem dX8_become_74 : decode cX8_become 74 = .ok (.aload_n 0, 1) := by decide +kernel
theorem dX8_become_75 : decode cX8_become 75 = .ok (.getfield 31, 3) := by decide +kernel
theorem dX8_become_78 : decode cX8_become 78 = .ok (.invokestatic 49, 3) := by decide +kernel
theorem dX8_become_81 : decode cX8_become 81 = .ok (.aload_n 1, 1) := by decide +kernel
theorem dX8_become_82 : decode cX8_become 82 = .ok (.getfield 34, 3) := by decide +kernel
theorem dX8_become_85 : decode cX8_become 85 = .ok (.aload_n 0, 1) := by decide +kernel
theorem dX8_become_86 : decode cX8_become 86 = .ok (.getfield 34, 3) := by decide +kernel
theorem dX8_become_89 : decode cX8_become 89 = .ok (.invokestatic 49, 3) := by decide +kernel
theorem dX8_become_92 : decode cX8_become 92 = .ok (.aload_n 1, 1) := by decide +kernel
theorem dX8_become_93 : decode cX8_become 93 = .ok (.getfield 37, 3) := by decide +kernel
theorem dX8_become_96 : decode cX8_become 96 = .ok (.aload_n 0, 1) := by decide +kernel
theorem dX8_become_97 : decode cX8_become 97 = .ok (.getfield 37, 3) := by decide +kernel
theorem dX8_become_100 : decode cX8_become 100 = .ok (.invokestatic 49, 3) := by decide +kernel
theorem dX8_become_103 : decode cX8_become 103 = .ok (.aload_n 1, 1) := by decide +kernel
theorem dX8_become_104 : decode cX8_become 104 = .ok (.getfield 40, 3) := by decide +kernel
theorem dX8_become_107 : decode cX8_become 107 = .ok (.aload_n 0, 1) := by decide +kernel
theorem dX8_become_108 : decode cX8_become 108 = .ok (.getfield 40, 3) := by decide +kernel
theorem dX8_become_111 : decode cX8_become 111 = .ok (.invokestatic 49, 3) := by decide +kernel
theorem dX8_become_114 : decode cX8_become 114 = .ok (.return_, 1) := by decide +kernel
theorem dX8_hasPerson_0 : decode cX8_hasPerson 0 = .ok (.iload_n 1, 1) := by decide +kernel
theorem dX8_hasPerson_1 : decode cX8_hasPerson 1 = .ok (.ifCond .lt 15, 3) := by decide +kernel
theorem dX8_hasPerson_4 : decode cX8_hasPerson 4 = .ok (.iload_n 1, 1) := by decide +kernel
theorem dX8_hasPerson_5 : decode cX8_hasPerson 5 = .ok (.aload_n 0, 1) := by decide +kernel
theorem dX8_hasPerson_6 : decode cX8_hasPerson 6 = .ok (.getfield 46, 3) := by decide +kernel
theorem dX8_hasPerson_9 : decode cX8_hasPerson 9 = .ok (.if_icmp .ge 7, 3) := by decide +kernel
theorem dX8_hasPerson_12 : decode cX8_hasPerson 12 = .ok (.iconst 1, 1) := by decide +kernel
theorem dX8_hasPerson_13 : decode cX8_hasPerson 13 = .ok (.goto 4, 3) := by decide +kernel
theorem dX8_hasPerson_16 : decode cX8_hasPerson 16 = .ok (.iconst 0, 1) := by decide +kernel
theorem dX8_hasPerson_17 : decode cX8_hasPerson 17 = .ok (.ireturn, 1) := by decide +kernel
theorem dX8_hasTwo_0 : decode cX8_hasTwo 0 = .ok (.aload_n 0, 1) := by decide +kernel
theorem dX8_hasTwo_1 : decode cX8_hasTwo 1 = .ok (.iload_n 1, 1) := by decide +kernel
theorem dX8_hasTwo_2 : decode cX8_hasTwo 2 = .ok (.invokevirtual 55, 3) := by decide +kernel
theorem dX8_hasTwo_5 : decode cX8_hasTwo 5 = .ok (.ifCond .eq 20, 3) := by decide +kernel
theorem dX8_hasTwo_8 : decode cX8_hasTwo 8 = .ok (.aload_n 0, 1) := by decide +kernel
theorem dX8_hasTwo_9 : decode cX8_hasTwo 9 = .ok (.iload_n 2, 1) := by decide +kernel
theorem dX8_hasTwo_10 : decode cX8_hasTwo 10 = .ok (.invokevirtual 55, 3) := by decide +kernel
theorem dX8_hasTwo_13 : decode cX8_hasTwo 13 = .ok (.ifCond .eq 12, 3) := by decide +kernel
theorem dX8_hasTwo_16 : decode cX8_hasTwo 16 = .ok (.iload_n 1, 1) := by decide +kernel
theorem dX8_hasTwo_17 : decode cX8_hasTwo 17 = .ok (.iload_n 2, 1) := by decide +kernel
theorem dX8_hasTwo_18 : decode cX8_hasTwo 18 = .ok (.if_icmp .eq 7, 3) := by decide +kernel
theorem dX8_hasTwo_21 : decode cX8_hasTwo 21 = .ok (.iconst 1, 1) := by decide +kernel
theorem dX8_hasTwo_22 : decode cX8_hasTwo 22 = .ok (.goto 4, 3) := by decide +kernel
theorem dX8_hasTwo_25 : decode cX8_hasTwo 25 = .ok (.iconst 0, 1) := by decide +kernel
theorem dX8_hasTwo_26 : decode cX8_hasTwo 26 = .ok (.ireturn, 1) := by decide +kernel
theorem dX8_bottom_0 : decode cX8_bottom 0 = .ok (.aload_n 0, 1) := by decide +kernel
theorem dX8_bottom_1 : decode cX8_bottom 1 = .ok (.getfield 43, 3) := by decide +kernel
theorem dX8_bottom_4 : decode cX8_bottom 4 = .ok (.bipush 100, 2) := by decide +kernel
theorem dX8_bottom_6 : decode cX8_bottom 6 = .ok (.imul, 1) := by decide +kernel
theorem dX8_bottom_7 : decode cX8_bottom 7 = .ok (.ireturn, 1) := by decide +kernel
theorem dX9_init_0 : decode cX9_init 0 = .ok (.aload_n 0, 1) := by decide +kernel
theorem dX9_init_1 : decode cX9_init 1 = .ok (.invokespecial 1, 3) := by decide +kernel
theorem dX9_init_4 : decode cX9_init 4 = .ok (.aload_n 0, 1) := by decide +kernel
theorem dX9_init_5 : decode cX9_init 5 = .ok (.new 7, 3) := by decide +kernel
theorem dX9_init_8 : decode cX9_init 8 = .ok (.dup, 1) := by decide +kernel
theorem dX9_init_9 : decode cX9_init 9 = .ok (.invokespecial 9, 3) := by decide +kernel
theorem dX9_init_12 : decode cX9_init 12 = .ok (.putfield 10, 3) := by decide +kernel
theorem dX9_init_15 : decode cX9_init 15 = .ok (.aload_n 0, 1) := by decide +kernel
theorem dX9_init_16 : decode cX9_init 16 = .ok (.new 16, 3) := by decide +kernel
theorem dX9_init_19 : decode cX9_init 19 = .ok (.dup, 1) := by decide +kernel
theorem dX9_init_20 : decode cX9_init 20 = .ok (.invokespecial 18, 3) := by decide +kernel
theorem dX9_init_23 : decode cX9_init 23 = .ok (.putfield 19, 3) := by decide +kernel
theorem dX9_init_26 : decode cX9_init 26 = .ok (.aload_n 0, 1) := by decide +kernel
theorem dX9_init_27 : decode cX9_init 27 = .ok (.new 23, 3) := by decide +kernel
theorem dX9_init_30 : decode cX9_init 30 = .ok (.dup, 1) := by decide +kernel
theorem dX9_init_31 : decode cX9_init 31 = .ok (.invokespecial 25, 3) := by decide +kernel
theorem dX9_init_34 : decode cX9_init 34 = .ok (.putfield 26, 3) := by decide +kernel
theorem dX9_init_37 : decode cX9_init 37 = .ok (.aload_n 0, 1) := by decide +kernel
theorem dX9_init_38 : decode cX9_init 38 = .ok (.new 30, 3) := by decide +kernel
theorem dX9_init_41 : decode cX9_init 41 = .ok (.dup, 1) := by decide +kernel
theorem dX9_init_42 : decode cX9_init 42 = .ok (.invokespecial 32, 3) := by decide +kernel
theorem dX9_init_45 : decode cX9_init 45 = .ok (.putfield 33, 3) := by decide +kernel
theorem dX9_init_48 : decode cX9_init 48 = .ok (.aload_n 0, 1) := by decide +kernel
theorem dX9_init_49 : decode cX9_init 49 = .ok (.new 37, 3) := by decide +kernel
theorem dX9_init_52 : decode cX9_init 52 = .ok (.dup, 1) := by decide +kernel
theorem dX9_init_53 : decode cX9_init 53 = .ok (.invokespecial 39, 3) := by decide +kernel
theorem dX9_init_56 : decode cX9_init 56 = .ok (.putfield 40, 3) := by decide +kernel
theorem dX9_init_59 : decode cX9_init 59 = .ok (.aload_n 0, 1) := by decide +kernel
theorem dX9_init_60 : decode cX9_init 60 = .ok (.new 44, 3) := by decide +kernel
theorem dX9_init_63 : decode cX9_init 63 = .ok (.dup, 1) := by decide +kernel
theorem dX9_init_64 : decode cX9_init 64 = .ok (.invokespecial 46, 3) := by decide +kernel
theorem dX9_init_67 : decode cX9_init 67 = .ok (.putfield 47, 3) := by decide +kernel
theorem dX9_init_70 : decode cX9_init 70 = .ok (.aload_n 0, 1) := by decide +kernel
theorem dX9_init_71 : decode cX9_init 71 = .ok (.new 51, 3) := by decide +kernel
theorem dX9_init_74 : decode cX9_init 74 = .ok (.dup, 1) := by decide +kernel
theorem dX9_init_75 : decode cX9_init 75 = .ok (.bipush 8, 2) := by decide +kernel
theorem dX9_init_77 : decode cX9_init 77 = .ok (.invokespecial 53, 3) := by decide +kernel
theorem dX9_init_80 : decode cX9_init 80 = .ok (.putfield 56, 3) := by decide +kernel
theorem dX9_init_83 : decode cX9_init 83 = .ok (.aload_n 0, 1) := by decide +kernel
theorem dX9_init_84 : decode cX9_init 84 = .ok (.new 51, 3) := by decide +kernel
theorem dX9_init_87 : decode cX9_init 87 = .ok (.dup, 1) := by decide +kernel
theorem dX9_init_88 : decode cX9_init 88 = .ok (.bipush 20, 2) := by decide +kernel
theorem dX9_init_90 : decode cX9_init 90 = .ok (.invokespecial 53, 3) := by decide +kernel
theorem dX9_init_93 : decode cX9_init 93 = .ok (.putfield 60, 3) := by decide +kernel
theorem dX9_init_96 : decode cX9_init 96 = .ok (.aload_n 0, 1) := by decide +kernel
theorem dX9_init_97 : decode cX9_init 97 = .ok (.new 63, 3) := by decide +kernel
theorem dX9_init_100 : decode cX9_init 100 = .ok (.dup, 1) := by decide +kernel
theorem dX9_init_101 : decode cX9_init 101 = .ok (.invokespecial 65, 3) := by decide +kernel
theorem dX9_init_104 : decode cX9_init 104 = .ok (.putfield 66, 3) := by decide +kernel
theorem dX9_init_107 : decode cX9_init 107 = .ok (.aload_n 0, 1) := by decide +kernel
theorem dX9_init_108 : decode cX9_init 108 = .ok (.new 63, 3) := by decide +kernel
theorem dX9_init_111 : decode cX9_init 111 = .ok (.dup, 1) := by decide +kernel
theorem dX9_init_112 : decode cX9_init 112 = .ok (.invokespecial 65, 3) := by decide +kernel
theorem dX9_init_115 : decode cX9_init 115 = .ok (.putfield 70, 3) := by decide +kernel
theorem dX9_init_118 : decode cX9_init 118 = .ok (.return_, 1) := by decide +kernel
theorem dX9_feed_0 : decode cX9_feed 0 = .ok (.iload_n 1, 1) := by decide +kernel
theorem dX9_feed_1 : decode cX9_feed 1 = .ok (.ifCond .lt 10, 3) := by decide +kernel
theorem dX9_feed_4 : decode cX9_feed 4 = .ok (.iload_n 1, 1) := by decide +kernel
theorem dX9_feed_5 : decode cX9_feed 5 = .ok (.sipush 255, 3) := by decide +kernel
theorem dX9_feed_8 : decode cX9_feed 8 = .ok (.if_icmp .le 6, 3) := by decide +kernel
theorem dX9_feed_11 : decode cX9_feed 11 = .ok (.ldc 73, 2) := by decide +kernel
theorem dX9_feed_13 : decode cX9_feed 13 = .ok (.ireturn, 1) := by decide +kernel
theorem dX9_feed_14 : decode cX9_feed 14 = .ok (.aload_n 0, 1) := by decide +kernel
theorem dX9_feed_15 : decode cX9_feed 15 = .ok (.getfield 19, 3) := by decide +kernel
theorem dX9_feed_18 : decode cX9_feed 18 = .ok (.getfield 74, 3) := by decide +kernel
theorem dX9_feed_21 : decode cX9_feed 21 = .ok (.iload_n 1, 1) := by decide +kernel
theorem dX9_feed_22 : decode cX9_feed 22 = .ok (.invokevirtual 77, 3) := by decide +kernel
theorem dX9_feed_25 : decode cX9_feed 25 = .ok (.ifCond .eq 16, 3) := by decide +kernel
theorem dX9_feed_28 : decode cX9_feed 28 = .ok (.aload_n 0, 1) := by decide +kernel
theorem dX9_feed_29 : decode cX9_feed 29 = .ok (.getfield 19, 3) := by decide +kernel
theorem dX9_feed_32 : decode cX9_feed 32 = .ok (.getfield 74, 3) := by decide +kernel
theorem dX9_feed_35 : decode cX9_feed 35 = .ok (.getfield 81, 3) := by decide +kernel
theorem dX9_feed_38 : decode cX9_feed 38 = .ok (.goto 5, 3) := by decide +kernel
theorem dX9_feed_41 : decode cX9_feed 41 = .ok (.ldc 85, 2) := by decide +kernel
theorem dX9_feed_43 : decode cX9_feed 43 = .ok (.ireturn, 1) := by decide +kernel
theorem dX9_yard_0 : decode cX9_yard 0 = .ok (.aload_n 0, 1) := by decide +kernel
theorem dX9_yard_1 : decode cX9_yard 1 = .ok (.getfield 19, 3) := by decide +kernel
theorem dX9_yard_4 : decode cX9_yard 4 = .ok (.invokevirtual 86, 3) := by decide +kernel
theorem dX9_yard_7 : decode cX9_yard 7 = .ok (.aload_n 0, 1) := by decide +kernel
theorem dX9_yard_8 : decode cX9_yard 8 = .ok (.getfield 19, 3) := by decide +kernel
theorem dX9_yard_11 : decode cX9_yard 11 = .ok (.getfield 89, 3) := by decide +kernel
theorem dX9_yard_14 : decode cX9_yard 14 = .ok (.ifCond .eq 14, 3) := by decide +kernel
theorem dX9_yard_17 : decode cX9_yard 17 = .ok (.bipush (-10), 2) := by decide +kernel
theorem dX9_yard_19 : decode cX9_yard 19 = .ok (.aload_n 0, 1) := by decide +kernel
theorem dX9_yard_20 : decode cX9_yard 20 = .ok (.getfield 19, 3) := by decide +kernel
theorem dX9_yard_23 : decode cX9_yard 23 = .ok (.getfield 89, 3) := by decide +kernel
theorem dX9_yard_26 : decode cX9_yard 26 = .ok (.isub, 1) := by decide +kernel
theorem dX9_yard_27 : decode cX9_yard 27 = .ok (.ireturn, 1) := by decide +kernel
theorem dX9_yard_28 : decode cX9_yard 28 = .ok (.aload_n 0, 1) := by decide +kernel
theorem dX9_yard_29 : decode cX9_yard 29 = .ok (.getfield 10, 3) := by decide +kernel
theorem dX9_yard_32 : decode cX9_yard 32 = .ok (.aload_n 0, 1) := by decide +kernel
theorem dX9_yard_33 : decode cX9_yard 33 = .ok (.getfield 19, 3) := by decide +kernel
theorem dX9_yard_36 : decode cX9_yard 36 = .ok (.getfield 92, 3) := by decide +kernel
theorem dX9_yard_39 : decode cX9_yard 39 = .ok (.invokevirtual 95, 3) := by decide +kernel
theorem dX9_yard_42 : decode cX9_yard 42 = .ok (.aload_n 0, 1) := by decide +kernel
theorem dX9_yard_43 : decode cX9_yard 43 = .ok (.getfield 26, 3) := by decide +kernel
theorem dX9_yard_46 : decode cX9_yard 46 = .ok (.aload_n 0, 1) := by decide +kernel
theorem dX9_yard_47 : decode cX9_yard 47 = .ok (.getfield 10, 3) := by decide +kernel
theorem dX9_yard_50 : decode cX9_yard 50 = .ok (.invokevirtual 99, 3) := by decide +kernel
theorem dX9_yard_53 : decode cX9_yard 53 = .ok (.aload_n 0, 1) := by decide +kernel
theorem dX9_yard_54 : decode cX9_yard 54 = .ok (.getfield 56, 3) := by decide +kernel
theorem dX9_yard_57 : decode cX9_yard 57 = .ok (.invokevirtual 102, 3) := by decide +kernel
theorem dX9_yard_60 : decode cX9_yard 60 = .ok (.aload_n 0, 1) := by decide +kernel
theorem dX9_yard_61 : decode cX9_yard 61 = .ok (.getfield 60, 3) := by decide +kernel
theorem dX9_yard_64 : decode cX9_yard 64 = .ok (.invokevirtual 102, 3) := by decide +kernel
theorem dX9_yard_67 : decode cX9_yard 67 = .ok (.aload_n 0, 1) := by decide +kernel
theorem dX9_yard_68 : decode cX9_yard 68 = .ok (.getfield 33, 3) := by decide +kernel
theorem dX9_yard_71 : decode cX9_yard 71 = .ok (.invokevirtual 105, 3) := by decide +kernel
theorem dX9_yard_74 : decode cX9_yard 74 = .ok (.aload_n 0, 1) := by decide +kernel
theorem dX9_yard_75 : decode cX9_yard 75 = .ok (.getfield 66, 3) := by decide +kernel
theorem dX9_yard_78 : decode cX9_yard 78 = .ok (.iconst 0, 1) := by decide +kernel
theorem dX9_yard_79 : decode cX9_yard 79 = .ok (.putfield 106, 3) := by decide +kernel
theorem dX9_yard_82 : decode cX9_yard 82 = .ok (.aload_n 0, 1) := by decide +kernel
theorem dX9_yard_83 : decode cX9_yard 83 = .ok (.getfield 70, 3) := by decide +kernel
theorem dX9_yard_86 : decode cX9_yard 86 = .ok (.iconst 0, 1) := by decide +kernel
theorem dX9_yard_87 : decode cX9_yard 87 = .ok (.putfield 106, 3) := by decide +kernel
theorem dX9_yard_90 : decode cX9_yard 90 = .ok (.aload_n 0, 1) := by decide +kernel
theorem dX9_yard_91 : decode cX9_yard 91 = .ok (.getfield 10, 3) := by decide +kernel
theorem dX9_yard_94 : decode cX9_yard 94 = .ok (.getfield 110, 3) := by decide +kernel
theorem dX9_yard_97 : decode cX9_yard 97 = .ok (.ireturn, 1) := by decide +kernel
theorem dX9_fault_0 : decode cX9_fault 0 = .ok (.aload_n 0, 1) := by decide +kernel
theorem dX9_fault_1 : decode cX9_fault 1 = .ok (.getfield 19, 3) := by decide +kernel
theorem dX9_fault_4 : decode cX9_fault 4 = .ok (.getfield 113, 3) := by decide +kernel
theorem dX9_fault_7 : decode cX9_fault 7 = .ok (.ireturn, 1) := by decide +kernel
theorem dX9_told_0 : decode cX9_told 0 = .ok (.iload_n 1, 1) := by decide +kernel
theorem dX9_told_1 : decode cX9_told 1 = .ok (.tableswitch 266 0 18 #[91, 99, 107, 118, 126, 134, 142, 150, 158, 166, 174, 190, 198, 206, 214, 222, 242, 250, 258], 91) := by decide +kernel
theorem dX9_told_92 : decode cX9_told 92 = .ok (.aload_n 0, 1) := by decide +kernel
theorem dX9_told_93 : decode cX9_told 93 = .ok (.getfield 10, 3) := by decide +kernel
theorem dX9_told_96 : decode cX9_told 96 = .ok (.getfield 110, 3) := by decide +kernel
theorem dX9_told_99 : decode cX9_told 99 = .ok (.ireturn, 1) := by decide +kernel
theorem dX9_told_100 : decode cX9_told 100 = .ok (.aload_n 0, 1) := by decide +kernel
theorem dX9_told_101 : decode cX9_told 101 = .ok (.getfield 10, 3) := by decide +kernel
theorem dX9_told_104 : decode cX9_told 104 = .ok (.getfield 116, 3) := by decide +kernel
theorem dX9_told_107 : decode cX9_told 107 = .ok (.ireturn, 1) := by decide +kernel
theorem dX9_told_108 : decode cX9_told 108 = .ok (.aload_n 0, 1) := by decide +kernel
theorem dX9_told_109 : decode cX9_told 109 = .ok (.getfield 19, 3) := by decide +kernel
theorem dX9_told_112 : decode cX9_told 112 = .ok (.getfield 74, 3) := by decide +kernel
theorem dX9_told_115 : decode cX9_told 115 = .ok (.getfield 81, 3) := by decide +kernel
theorem dX9_told_118 : decode cX9_told 118 = .ok (.ireturn, 1) := by decide +kernel
theorem dX9_told_119 : decode cX9_told 119 = .ok (.aload_n 0, 1) := by decide +kernel
theorem dX9_told_120 : decode cX9_told 120 = .ok (.getfield 26, 3) := by decide +kernel
theorem dX9_told_123 : decode cX9_told 123 = .ok (.getfield 119, 3) := by decide +kernel
theorem dX9_told_126 : decode cX9_told 126 = .ok (.ireturn, 1) := by decide +kernel
theorem dX9_told_127 : decode cX9_told 127 = .ok (.aload_n 0, 1) := by decide +kernel
theorem dX9_told_128 : decode cX9_told 128 = .ok (.getfield 26, 3) := by decide +kernel
theorem dX9_told_131 : decode cX9_told 131 = .ok (.getfield 122, 3) := by decide +kernel
theorem dX9_told_134 : decode cX9_told 134 = .ok (.ireturn, 1) := by decide +kernel
theorem dX9_told_135 : decode cX9_told 135 = .ok (.aload_n 0, 1) := by decide +kernel
theorem dX9_told_136 : decode cX9_told 136 = .ok (.getfield 26, 3) := by decide +kernel
theorem dX9_told_139 : decode cX9_told 139 = .ok (.getfield 125, 3) := by decide +kernel
theorem dX9_told_142 : decode cX9_told 142 = .ok (.ireturn, 1) := by decide +kernel
theorem dX9_told_143 : decode cX9_told 143 = .ok (.aload_n 0, 1) := by decide +kernel
theorem dX9_told_144 : decode cX9_told 144 = .ok (.getfield 26, 3) := by decide +kernel
theorem dX9_told_147 : decode cX9_told 147 = .ok (.getfield 128, 3) := by decide +kernel
theorem dX9_told_150 : decode cX9_told 150 = .ok (.ireturn, 1) := by decide +kernel
theorem dX9_told_151 : decode cX9_told 151 = .ok (.aload_n 0, 1) := by decide +kernel
theorem dX9_told_152 : decode cX9_told 152 = .ok (.getfield 26, 3) := by decide +kernel
theorem dX9_told_155 : decode cX9_told 155 = .ok (.getfield 131, 3) := by decide +kernel
theorem dX9_told_158 : decode cX9_told 158 = .ok (.ireturn, 1) := by decide +kernel
theorem dX9_told_159 : decode cX9_told 159 = .ok (.aload_n 0, 1) := by decide +kernel
theorem dX9_told_160 : decode cX9_told 160 = .ok (.getfield 26, 3) := by decide +kernel
theorem dX9_told_163 : decode cX9_told 163 = .ok (.getfield 134, 3) := by decide +kernel
theorem dX9_told_166 : decode cX9_told 166 = .ok (.ireturn, 1) := by decide +kernel
theorem dX9_told_167 : decode cX9_told 167 = .ok (.aload_n 0, 1) := by decide +kernel
theorem dX9_told_168 : decode cX9_told 168 = .ok (.getfield 26, 3) := by decide +kernel
theorem dX9_told_171 : decode cX9_told 171 = .ok (.getfield 137, 3) := by decide +kernel
theorem dX9_told_174 : decode cX9_told 174 = .ok (.ireturn, 1) := by decide +kernel
theorem dX9_told_175 : decode cX9_told 175 = .ok (.aload_n 0, 1) := by decide +kernel
theorem dX9_told_176 : decode cX9_told 176 = .ok (.getfield 26, 3) := by decide +kernel
theorem dX9_told_179 : decode cX9_told 179 = .ok (.getfield 140, 3) := by decide +kernel
theorem dX9_told_182 : decode cX9_told 182 = .ok (.ifCond .eq 7, 3) := by decide +kernel
theorem dX9_told_185 : decode cX9_told 185 = .ok (.iconst 1, 1) := by decide +kernel
theorem dX9_told_186 : decode cX9_told 186 = .ok (.goto 4, 3) := by decide +kernel
theorem dX9_told_189 : decode cX9_told 189 = .ok (.iconst 0, 1) := by decide +kernel
theorem dX9_told_190 : decode cX9_told 190 = .ok (.ireturn, 1) := by decide +kernel
theorem dX9_told_191 : decode cX9_told 191 = .ok (.aload_n 0, 1) := by decide +kernel
theorem dX9_told_192 : decode cX9_told 192 = .ok (.getfield 26, 3) := by decide +kernel
theorem dX9_told_195 : decode cX9_told 195 = .ok (.getfield 143, 3) := by decide +kernel
theorem dX9_told_198 : decode cX9_told 198 = .ok (.ireturn, 1) := by decide +kernel
theorem dX9_told_199 : decode cX9_told 199 = .ok (.aload_n 0, 1) := by decide +kernel
theorem dX9_told_200 : decode cX9_told 200 = .ok (.getfield 10, 3) := by decide +kernel
theorem dX9_told_203 : decode cX9_told 203 = .ok (.getfield 146, 3) := by decide +kernel
theorem dX9_told_206 : decode cX9_told 206 = .ok (.ireturn, 1) := by decide +kernel
theorem dX9_told_207 : decode cX9_told 207 = .ok (.aload_n 0, 1) := by decide +kernel
theorem dX9_told_208 : decode cX9_told 208 = .ok (.getfield 10, 3) := by decide +kernel
theorem dX9_told_211 : decode cX9_told 211 = .ok (.getfield 149, 3) := by decide +kernel
theorem dX9_told_214 : decode cX9_told 214 = .ok (.ireturn, 1) := by decide +kernel
theorem dX9_told_215 : decode cX9_told 215 = .ok (.aload_n 0, 1) := by decide +kernel
theorem dX9_told_216 : decode cX9_told 216 = .ok (.getfield 10, 3) := by decide +kernel
theorem dX9_told_219 : decode cX9_told 219 = .ok (.getfield 152, 3) := by decide +kernel
theorem dX9_told_222 : decode cX9_told 222 = .ok (.ireturn, 1) := by decide +kernel
theorem dX9_told_223 : decode cX9_told 223 = .ok (.aload_n 0, 1) := by decide +kernel
theorem dX9_told_224 : decode cX9_told 224 = .ok (.getfield 26, 3) := by decide +kernel
theorem dX9_told_227 : decode cX9_told 227 = .ok (.aload_n 0, 1) := by decide +kernel
theorem dX9_told_228 : decode cX9_told 228 = .ok (.getfield 10, 3) := by decide +kernel
theorem dX9_told_231 : decode cX9_told 231 = .ok (.invokevirtual 155, 3) := by decide +kernel
theorem dX9_told_234 : decode cX9_told 234 = .ok (.ifCond .eq 7, 3) := by decide +kernel
theorem dX9_told_237 : decode cX9_told 237 = .ok (.iconst 1, 1) := by decide +kernel
theorem dX9_told_238 : decode cX9_told 238 = .ok (.goto 4, 3) := by decide +kernel
theorem dX9_told_241 : decode cX9_told 241 = .ok (.iconst 0, 1) := by decide +kernel
theorem dX9_told_242 : decode cX9_told 242 = .ok (.ireturn, 1) := by decide +kernel
theorem dX9_told_243 : decode cX9_told 243 = .ok (.aload_n 0, 1) := by decide +kernel
theorem dX9_told_244 : decode cX9_told 244 = .ok (.getfield 56, 3) := by decide +kernel
theorem dX9_told_247 : decode cX9_told 247 = .ok (.getfield 81, 3) := by decide +kernel
theorem dX9_told_250 : decode cX9_told 250 = .ok (.ireturn, 1) := by decide +kernel
theorem dX9_told_251 : decode cX9_told 251 = .ok (.aload_n 0, 1) := by decide +kernel
theorem dX9_told_252 : decode cX9_told 252 = .ok (.getfield 60, 3) := by decide +kernel
theorem dX9_told_255 : decode cX9_told 255 = .ok (.getfield 81, 3) := by decide +kernel
theorem dX9_told_258 : decode cX9_told 258 = .ok (.ireturn, 1) := by decide +kernel
theorem dX9_told_259 : decode cX9_told 259 = .ok (.aload_n 0, 1) := by decide +kernel
theorem dX9_told_260 : decode cX9_told 260 = .ok (.getfield 33, 3) := by decide +kernel
theorem dX9_told_263 : decode cX9_told 263 = .ok (.getfield 159, 3) := by decide +kernel
theorem dX9_told_266 : decode cX9_told 266 = .ok (.ireturn, 1) := by decide +kernel
theorem dX9_told_267 : decode cX9_told 267 = .ok (.ldc 73, 2) := by decide +kernel
theorem dX9_told_269 : decode cX9_told 269 = .ok (.ireturn, 1) := by decide +kernel
theorem dX9_wood_0 : decode cX9_wood 0 = .ok (.iload_n 1, 1) := by decide +kernel
theorem dX9_wood_1 : decode cX9_wood 1 = .ok (.ifCond .lt 14, 3) := by decide +kernel
theorem dX9_wood_4 : decode cX9_wood 4 = .ok (.iload_n 1, 1) := by decide +kernel
theorem dX9_wood_5 : decode cX9_wood 5 = .ok (.aload_n 0, 1) := by decide +kernel
theorem dX9_wood_6 : decode cX9_wood 6 = .ok (.getfield 10, 3) := by decide +kernel
theorem dX9_wood_9 : decode cX9_wood 9 = .ok (.getfield 110, 3) := by decide +kernel
theorem dX9_wood_12 : decode cX9_wood 12 = .ok (.if_icmp .lt 8, 3) := by decide +kernel
theorem dX9_wood_15 : decode cX9_wood 15 = .ok (.ldc 160, 2) := by decide +kernel
theorem dX9_wood_17 : decode cX9_wood 17 = .ok (.goto 14, 3) := by decide +kernel
theorem dX9_wood_20 : decode cX9_wood 20 = .ok (.aload_n 0, 1) := by decide +kernel
theorem dX9_wood_21 : decode cX9_wood 21 = .ok (.getfield 10, 3) := by decide +kernel
theorem dX9_wood_24 : decode cX9_wood 24 = .ok (.getfield 161, 3) := by decide +kernel
theorem dX9_wood_27 : decode cX9_wood 27 = .ok (.iload_n 1, 1) := by decide +kernel
theorem dX9_wood_28 : decode cX9_wood 28 = .ok (.invokestatic 165, 3) := by decide +kernel
theorem dX9_wood_31 : decode cX9_wood 31 = .ok (.ireturn, 1) := by decide +kernel
theorem dX9_person_0 : decode cX9_person 0 = .ok (.aload_n 0, 1) := by decide +kernel
theorem dX9_person_1 : decode cX9_person 1 = .ok (.getfield 10, 3) := by decide +kernel
theorem dX9_person_4 : decode cX9_person 4 = .ok (.iload_n 1, 1) := by decide +kernel
theorem dX9_person_5 : decode cX9_person 5 = .ok (.invokevirtual 171, 3) := by decide +kernel
theorem dX9_person_8 : decode cX9_person 8 = .ok (.ifCond .ne 6, 3) := by decide +kernel
theorem dX9_person_11 : decode cX9_person 11 = .ok (.ldc 160, 2) := by decide +kernel
theorem dX9_person_13 : decode cX9_person 13 = .ok (.ireturn, 1) := by decide +kernel
theorem dX9_person_14 : decode cX9_person 14 = .ok (.iload_n 2, 1) := by decide +kernel
theorem dX9_person_15 : decode cX9_person 15 = .ok (.tableswitch 141 0 7 #[45, 57, 69, 81, 93, 105, 117, 129], 45) := by decide +kernel
theorem dX9_person_60 : decode cX9_person 60 = .ok (.aload_n 0, 1) := by decide +kernel
theorem dX9_person_61 : decode cX9_person 61 = .ok (.getfield 10, 3) := by decide +kernel
theorem dX9_person_64 : decode cX9_person 64 = .ok (.getfield 174, 3) := by decide +kernel
theorem dX9_person_67 : decode cX9_person 67 = .ok (.iload_n 1, 1) := by decide +kernel
theorem dX9_person_68 : decode cX9_person 68 = .ok (.invokestatic 165, 3) := by decide +kernel
theorem dX9_person_71 : decode cX9_person 71 = .ok (.ireturn, 1) := by decide +kernel
theorem dX9_person_72 : decode cX9_person 72 = .ok (.aload_n 0, 1) := by decide +kernel
theorem dX9_person_73 : decode cX9_person 73 = .ok (.getfield 10, 3) := by decide +kernel
theorem dX9_person_76 : decode cX9_person 76 = .ok (.getfield 177, 3) := by decide +kernel
theorem dX9_person_79 : decode cX9_person 79 = .ok (.iload_n 1, 1) := by decide +kernel
theorem dX9_person_80 : decode cX9_person 80 = .ok (.invokestatic 165, 3) := by decide +kernel
theorem dX9_person_83 : decode cX9_person 83 = .ok (.ireturn, 1) := by decide +kernel
end
section
theorem dX9_person_84 : decode cX9_person 84 = .ok (.aload_n 0, 1) := by decide +kernel
theorem dX9_person_85 : decode cX9_person 85 = .ok (.getfield 10, 3) := by decide +kernel
theorem dX9_person_88 : decode cX9_person 88 = .ok (.getfield 180, 3) := by decide +kernel
theorem dX9_person_91 : decode cX9_person 91 = .ok (.iload_n 1, 1) := by decide +kernel
theorem dX9_person_92 : decode cX9_person 92 = .ok (.invokestatic 165, 3) := by decide +kernel
theorem dX9_person_95 : decode cX9_person 95 = .ok (.ireturn, 1) := by decide +kernel
theorem dX9_person_96 : decode cX9_person 96 = .ok (.aload_n 0, 1) := by decide +kernel
theorem dX9_person_97 : decode cX9_person 97 = .ok (.getfield 26, 3) := by decide +kernel
theorem dX9_person_100 : decode cX9_person 100 = .ok (.getfield 183, 3) := by decide +kernel
theorem dX9_person_103 : decode cX9_person 103 = .ok (.iload_n 1, 1) := by decide +kernel
theorem dX9_person_104 : decode cX9_person 104 = .ok (.invokestatic 165, 3) := by decide +kernel
theorem dX9_person_107 : decode cX9_person 107 = .ok (.ireturn, 1) := by decide +kernel
theorem dX9_person_108 : decode cX9_person 108 = .ok (.aload_n 0, 1) := by decide +kernel
theorem dX9_person_109 : decode cX9_person 109 = .ok (.getfield 10, 3) := by decide +kernel
theorem dX9_person_112 : decode cX9_person 112 = .ok (.getfield 186, 3) := by decide +kernel
theorem dX9_person_115 : decode cX9_person 115 = .ok (.iload_n 1, 1) := by decide +kernel
theorem dX9_person_116 : decode cX9_person 116 = .ok (.invokestatic 165, 3) := by decide +kernel
theorem dX9_person_119 : decode cX9_person 119 = .ok (.ireturn, 1) := by decide +kernel
theorem dX9_person_120 : decode cX9_person 120 = .ok (.aload_n 0, 1) := by decide +kernel
theorem dX9_person_121 : decode cX9_person 121 = .ok (.getfield 26, 3) := by decide +kernel
theorem dX9_person_124 : decode cX9_person 124 = .ok (.getfield 189, 3) := by decide +kernel
theorem dX9_person_127 : decode cX9_person 127 = .ok (.iload_n 1, 1) := by decide +kernel
theorem dX9_person_128 : decode cX9_person 128 = .ok (.invokestatic 165, 3) := by decide +kernel
theorem dX9_person_131 : decode cX9_person 131 = .ok (.ireturn, 1) := by decide +kernel
theorem dX9_person_132 : decode cX9_person 132 = .ok (.aload_n 0, 1) := by decide +kernel
theorem dX9_person_133 : decode cX9_person 133 = .ok (.getfield 26, 3) := by decide +kernel
theorem dX9_person_136 : decode cX9_person 136 = .ok (.getfield 192, 3) := by decide +kernel
theorem dX9_person_139 : decode cX9_person 139 = .ok (.iload_n 1, 1) := by decide +kernel
theorem dX9_person_140 : decode cX9_person 140 = .ok (.invokestatic 165, 3) := by decide +kernel
theorem dX9_person_143 : decode cX9_person 143 = .ok (.ireturn, 1) := by decide +kernel
theorem dX9_person_144 : decode cX9_person 144 = .ok (.aload_n 0, 1) := by decide +kernel
theorem dX9_person_145 : decode cX9_person 145 = .ok (.getfield 26, 3) := by decide +kernel
theorem dX9_person_148 : decode cX9_person 148 = .ok (.getfield 195, 3) := by decide +kernel
theorem dX9_person_151 : decode cX9_person 151 = .ok (.iload_n 1, 1) := by decide +kernel
theorem dX9_person_152 : decode cX9_person 152 = .ok (.invokestatic 165, 3) := by decide +kernel
theorem dX9_person_155 : decode cX9_person 155 = .ok (.ireturn, 1) := by decide +kernel
theorem dX9_person_156 : decode cX9_person 156 = .ok (.ldc 73, 2) := by decide +kernel
theorem dX9_person_158 : decode cX9_person 158 = .ok (.ireturn, 1) := by decide +kernel
theorem dX9_log_0 : decode cX9_log 0 = .ok (.aload_n 0, 1) := by decide +kernel
theorem dX9_log_1 : decode cX9_log 1 = .ok (.iload_n 1, 1) := by decide +kernel
theorem dX9_log_2 : decode cX9_log 2 = .ok (.iload_n 2, 1) := by decide +kernel
theorem dX9_log_3 : decode cX9_log 3 = .ok (.invokevirtual 198, 3) := by decide +kernel
theorem dX9_log_6 : decode cX9_log 6 = .ok (.istore_n 3, 1) := by decide +kernel
theorem dX9_log_7 : decode cX9_log 7 = .ok (.iload_n 3, 1) := by decide +kernel
theorem dX9_log_8 : decode cX9_log 8 = .ok (.ifCond .eq 5, 3) := by decide +kernel
theorem dX9_log_11 : decode cX9_log 11 = .ok (.iload_n 3, 1) := by decide +kernel
theorem dX9_log_12 : decode cX9_log 12 = .ok (.ireturn, 1) := by decide +kernel
theorem dX9_log_13 : decode cX9_log 13 = .ok (.aload_n 0, 1) := by decide +kernel
theorem dX9_log_14 : decode cX9_log 14 = .ok (.getfield 26, 3) := by decide +kernel
theorem dX9_log_17 : decode cX9_log 17 = .ok (.iload_n 1, 1) := by decide +kernel
theorem dX9_log_18 : decode cX9_log 18 = .ok (.iload_n 2, 1) := by decide +kernel
theorem dX9_log_19 : decode cX9_log 19 = .ok (.invokevirtual 202, 3) := by decide +kernel
theorem dX9_log_22 : decode cX9_log 22 = .ok (.aload_n 0, 1) := by decide +kernel
theorem dX9_log_23 : decode cX9_log 23 = .ok (.getfield 33, 3) := by decide +kernel
theorem dX9_log_26 : decode cX9_log 26 = .ok (.invokevirtual 105, 3) := by decide +kernel
theorem dX9_log_29 : decode cX9_log 29 = .ok (.iload_n 1, 1) := by decide +kernel
theorem dX9_log_30 : decode cX9_log 30 = .ok (.ireturn, 1) := by decide +kernel
theorem dX9_stroke_0 : decode cX9_stroke 0 = .ok (.aload_n 0, 1) := by decide +kernel
theorem dX9_stroke_1 : decode cX9_stroke 1 = .ok (.iload_n 1, 1) := by decide +kernel
theorem dX9_stroke_2 : decode cX9_stroke 2 = .ok (.invokevirtual 206, 3) := by decide +kernel
theorem dX9_stroke_5 : decode cX9_stroke 5 = .ok (.istore_n 2, 1) := by decide +kernel
theorem dX9_stroke_6 : decode cX9_stroke 6 = .ok (.iload_n 2, 1) := by decide +kernel
theorem dX9_stroke_7 : decode cX9_stroke 7 = .ok (.ifCond .eq 5, 3) := by decide +kernel
theorem dX9_stroke_10 : decode cX9_stroke 10 = .ok (.iload_n 2, 1) := by decide +kernel
theorem dX9_stroke_11 : decode cX9_stroke 11 = .ok (.ireturn, 1) := by decide +kernel
theorem dX9_stroke_12 : decode cX9_stroke 12 = .ok (.aload_n 0, 1) := by decide +kernel
theorem dX9_stroke_13 : decode cX9_stroke 13 = .ok (.getfield 33, 3) := by decide +kernel
theorem dX9_stroke_16 : decode cX9_stroke 16 = .ok (.aload_n 0, 1) := by decide +kernel
theorem dX9_stroke_17 : decode cX9_stroke 17 = .ok (.getfield 26, 3) := by decide +kernel
theorem dX9_stroke_20 : decode cX9_stroke 20 = .ok (.invokevirtual 210, 3) := by decide +kernel
theorem dX9_stroke_23 : decode cX9_stroke 23 = .ok (.iconst 0, 1) := by decide +kernel
theorem dX9_stroke_24 : decode cX9_stroke 24 = .ok (.istore_n 3, 1) := by decide +kernel
theorem dX9_stroke_25 : decode cX9_stroke 25 = .ok (.iconst 0, 1) := by decide +kernel
theorem dX9_stroke_26 : decode cX9_stroke 26 = .ok (.istore 4, 2) := by decide +kernel
theorem dX9_stroke_28 : decode cX9_stroke 28 = .ok (.iload 4, 2) := by decide +kernel
theorem dX9_stroke_30 : decode cX9_stroke 30 = .ok (.iload_n 1, 1) := by decide +kernel
theorem dX9_stroke_31 : decode cX9_stroke 31 = .ok (.if_icmp .ge 37, 3) := by decide +kernel
theorem dX9_stroke_34 : decode cX9_stroke 34 = .ok (.aload_n 0, 1) := by decide +kernel
theorem dX9_stroke_35 : decode cX9_stroke 35 = .ok (.getfield 26, 3) := by decide +kernel
theorem dX9_stroke_38 : decode cX9_stroke 38 = .ok (.aload_n 0, 1) := by decide +kernel
theorem dX9_stroke_39 : decode cX9_stroke 39 = .ok (.getfield 10, 3) := by decide +kernel
theorem dX9_stroke_42 : decode cX9_stroke 42 = .ok (.invokevirtual 155, 3) := by decide +kernel
theorem dX9_stroke_45 : decode cX9_stroke 45 = .ok (.ifCond .ne 23, 3) := by decide +kernel
theorem dX9_stroke_48 : decode cX9_stroke 48 = .ok (.iload_n 3, 1) := by decide +kernel
theorem dX9_stroke_49 : decode cX9_stroke 49 = .ok (.aload_n 0, 1) := by decide +kernel
theorem dX9_stroke_50 : decode cX9_stroke 50 = .ok (.getfield 26, 3) := by decide +kernel
theorem dX9_stroke_53 : decode cX9_stroke 53 = .ok (.aload_n 0, 1) := by decide +kernel
theorem dX9_stroke_54 : decode cX9_stroke 54 = .ok (.getfield 10, 3) := by decide +kernel
theorem dX9_stroke_57 : decode cX9_stroke 57 = .ok (.invokevirtual 214, 3) := by decide +kernel
theorem dX9_stroke_60 : decode cX9_stroke 60 = .ok (.iadd, 1) := by decide +kernel
theorem dX9_stroke_61 : decode cX9_stroke 61 = .ok (.istore_n 3, 1) := by decide +kernel
theorem dX9_stroke_62 : decode cX9_stroke 62 = .ok (.iinc 4 1, 3) := by decide +kernel
theorem dX9_stroke_65 : decode cX9_stroke 65 = .ok (.goto (-37), 3) := by decide +kernel
theorem dX9_stroke_68 : decode cX9_stroke 68 = .ok (.iload_n 3, 1) := by decide +kernel
theorem dX9_stroke_69 : decode cX9_stroke 69 = .ok (.ireturn, 1) := by decide +kernel
theorem dX9_rest_0 : decode cX9_rest 0 = .ok (.aload_n 0, 1) := by decide +kernel
theorem dX9_rest_1 : decode cX9_rest 1 = .ok (.iload_n 1, 1) := by decide +kernel
theorem dX9_rest_2 : decode cX9_rest 2 = .ok (.invokevirtual 206, 3) := by decide +kernel
theorem dX9_rest_5 : decode cX9_rest 5 = .ok (.istore_n 2, 1) := by decide +kernel
theorem dX9_rest_6 : decode cX9_rest 6 = .ok (.iload_n 2, 1) := by decide +kernel
theorem dX9_rest_7 : decode cX9_rest 7 = .ok (.ifCond .eq 5, 3) := by decide +kernel
theorem dX9_rest_10 : decode cX9_rest 10 = .ok (.iload_n 2, 1) := by decide +kernel
theorem dX9_rest_11 : decode cX9_rest 11 = .ok (.ireturn, 1) := by decide +kernel
theorem dX9_rest_12 : decode cX9_rest 12 = .ok (.aload_n 0, 1) := by decide +kernel
theorem dX9_rest_13 : decode cX9_rest 13 = .ok (.getfield 33, 3) := by decide +kernel
theorem dX9_rest_16 : decode cX9_rest 16 = .ok (.aload_n 0, 1) := by decide +kernel
theorem dX9_rest_17 : decode cX9_rest 17 = .ok (.getfield 26, 3) := by decide +kernel
theorem dX9_rest_20 : decode cX9_rest 20 = .ok (.invokevirtual 210, 3) := by decide +kernel
theorem dX9_rest_23 : decode cX9_rest 23 = .ok (.aload_n 0, 1) := by decide +kernel
theorem dX9_rest_24 : decode cX9_rest 24 = .ok (.getfield 26, 3) := by decide +kernel
theorem dX9_rest_27 : decode cX9_rest 27 = .ok (.iload_n 1, 1) := by decide +kernel
theorem dX9_rest_28 : decode cX9_rest 28 = .ok (.invokevirtual 218, 3) := by decide +kernel
theorem dX9_rest_31 : decode cX9_rest 31 = .ok (.aload_n 0, 1) := by decide +kernel
theorem dX9_rest_32 : decode cX9_rest 32 = .ok (.getfield 26, 3) := by decide +kernel
theorem dX9_rest_35 : decode cX9_rest 35 = .ok (.getfield 131, 3) := by decide +kernel
theorem dX9_rest_38 : decode cX9_rest 38 = .ok (.ireturn, 1) := by decide +kernel
theorem dX9_sides_0 : decode cX9_sides 0 = .ok (.aload_n 0, 1) := by decide +kernel
theorem dX9_sides_1 : decode cX9_sides 1 = .ok (.getfield 26, 3) := by decide +kernel
theorem dX9_sides_4 : decode cX9_sides 4 = .ok (.invokevirtual 221, 3) := by decide +kernel
theorem dX9_sides_7 : decode cX9_sides 7 = .ok (.ifCond .ne 6, 3) := by decide +kernel
theorem dX9_sides_10 : decode cX9_sides 10 = .ok (.ldc 225, 2) := by decide +kernel
theorem dX9_sides_12 : decode cX9_sides 12 = .ok (.ireturn, 1) := by decide +kernel
theorem dX9_sides_13 : decode cX9_sides 13 = .ok (.aload_n 0, 1) := by decide +kernel
theorem dX9_sides_14 : decode cX9_sides 14 = .ok (.getfield 33, 3) := by decide +kernel
theorem dX9_sides_17 : decode cX9_sides 17 = .ok (.aload_n 0, 1) := by decide +kernel
theorem dX9_sides_18 : decode cX9_sides 18 = .ok (.getfield 26, 3) := by decide +kernel
theorem dX9_sides_21 : decode cX9_sides 21 = .ok (.invokevirtual 210, 3) := by decide +kernel
theorem dX9_sides_24 : decode cX9_sides 24 = .ok (.aload_n 0, 1) := by decide +kernel
theorem dX9_sides_25 : decode cX9_sides 25 = .ok (.getfield 26, 3) := by decide +kernel
theorem dX9_sides_28 : decode cX9_sides 28 = .ok (.invokevirtual 226, 3) := by decide +kernel
theorem dX9_sides_31 : decode cX9_sides 31 = .ok (.aload_n 0, 1) := by decide +kernel
theorem dX9_sides_32 : decode cX9_sides 32 = .ok (.getfield 26, 3) := by decide +kernel
theorem dX9_sides_35 : decode cX9_sides 35 = .ok (.getfield 119, 3) := by decide +kernel
theorem dX9_sides_38 : decode cX9_sides 38 = .ok (.ireturn, 1) := by decide +kernel
theorem dX9_oil_0 : decode cX9_oil 0 = .ok (.aload_n 0, 1) := by decide +kernel
theorem dX9_oil_1 : decode cX9_oil 1 = .ok (.getfield 26, 3) := by decide +kernel
theorem dX9_oil_4 : decode cX9_oil 4 = .ok (.invokevirtual 221, 3) := by decide +kernel
theorem dX9_oil_7 : decode cX9_oil 7 = .ok (.ifCond .ne 6, 3) := by decide +kernel
theorem dX9_oil_10 : decode cX9_oil 10 = .ok (.ldc 225, 2) := by decide +kernel
theorem dX9_oil_12 : decode cX9_oil 12 = .ok (.ireturn, 1) := by decide +kernel
theorem dX9_oil_13 : decode cX9_oil 13 = .ok (.aload_n 0, 1) := by decide +kernel
theorem dX9_oil_14 : decode cX9_oil 14 = .ok (.getfield 26, 3) := by decide +kernel
theorem dX9_oil_17 : decode cX9_oil 17 = .ok (.getfield 137, 3) := by decide +kernel
theorem dX9_oil_20 : decode cX9_oil 20 = .ok (.istore_n 1, 1) := by decide +kernel
theorem dX9_oil_21 : decode cX9_oil 21 = .ok (.iload_n 1, 1) := by decide +kernel
theorem dX9_oil_22 : decode cX9_oil 22 = .ok (.ifCond .eq 22, 3) := by decide +kernel
theorem dX9_oil_25 : decode cX9_oil 25 = .ok (.aload_n 0, 1) := by decide +kernel
theorem dX9_oil_26 : decode cX9_oil 26 = .ok (.getfield 33, 3) := by decide +kernel
theorem dX9_oil_29 : decode cX9_oil 29 = .ok (.aload_n 0, 1) := by decide +kernel
theorem dX9_oil_30 : decode cX9_oil 30 = .ok (.getfield 26, 3) := by decide +kernel
theorem dX9_oil_33 : decode cX9_oil 33 = .ok (.invokevirtual 210, 3) := by decide +kernel
theorem dX9_oil_36 : decode cX9_oil 36 = .ok (.aload_n 0, 1) := by decide +kernel
theorem dX9_oil_37 : decode cX9_oil 37 = .ok (.getfield 26, 3) := by decide +kernel
theorem dX9_oil_40 : decode cX9_oil 40 = .ok (.iconst 0, 1) := by decide +kernel
theorem dX9_oil_41 : decode cX9_oil 41 = .ok (.putfield 137, 3) := by decide +kernel
theorem dX9_oil_44 : decode cX9_oil 44 = .ok (.iload_n 1, 1) := by decide +kernel
theorem dX9_oil_45 : decode cX9_oil 45 = .ok (.ireturn, 1) := by decide +kernel
theorem dX9_wedge_0 : decode cX9_wedge 0 = .ok (.aload_n 0, 1) := by decide +kernel
theorem dX9_wedge_1 : decode cX9_wedge 1 = .ok (.getfield 26, 3) := by decide +kernel
theorem dX9_wedge_4 : decode cX9_wedge 4 = .ok (.invokevirtual 221, 3) := by decide +kernel
theorem dX9_wedge_7 : decode cX9_wedge 7 = .ok (.ifCond .eq 13, 3) := by decide +kernel
theorem dX9_wedge_10 : decode cX9_wedge 10 = .ok (.aload_n 0, 1) := by decide +kernel
theorem dX9_wedge_11 : decode cX9_wedge 11 = .ok (.getfield 26, 3) := by decide +kernel
theorem dX9_wedge_14 : decode cX9_wedge 14 = .ok (.getfield 140, 3) := by decide +kernel
theorem dX9_wedge_17 : decode cX9_wedge 17 = .ok (.ifCond .eq 6, 3) := by decide +kernel
theorem dX9_wedge_20 : decode cX9_wedge 20 = .ok (.ldc 225, 2) := by decide +kernel
theorem dX9_wedge_22 : decode cX9_wedge 22 = .ok (.ireturn, 1) := by decide +kernel
theorem dX9_wedge_23 : decode cX9_wedge 23 = .ok (.aload_n 0, 1) := by decide +kernel
theorem dX9_wedge_24 : decode cX9_wedge 24 = .ok (.getfield 33, 3) := by decide +kernel
theorem dX9_wedge_27 : decode cX9_wedge 27 = .ok (.aload_n 0, 1) := by decide +kernel
theorem dX9_wedge_28 : decode cX9_wedge 28 = .ok (.getfield 26, 3) := by decide +kernel
theorem dX9_wedge_31 : decode cX9_wedge 31 = .ok (.invokevirtual 210, 3) := by decide +kernel
theorem dX9_wedge_34 : decode cX9_wedge 34 = .ok (.aload_n 0, 1) := by decide +kernel
theorem dX9_wedge_35 : decode cX9_wedge 35 = .ok (.getfield 26, 3) := by decide +kernel
theorem dX9_wedge_38 : decode cX9_wedge 38 = .ok (.iconst 1, 1) := by decide +kernel
theorem dX9_wedge_39 : decode cX9_wedge 39 = .ok (.putfield 140, 3) := by decide +kernel
theorem dX9_wedge_42 : decode cX9_wedge 42 = .ok (.aload_n 0, 1) := by decide +kernel
theorem dX9_wedge_43 : decode cX9_wedge 43 = .ok (.getfield 26, 3) := by decide +kernel
theorem dX9_wedge_46 : decode cX9_wedge 46 = .ok (.dup, 1) := by decide +kernel
theorem dX9_wedge_47 : decode cX9_wedge 47 = .ok (.getfield 131, 3) := by decide +kernel
theorem dX9_wedge_50 : decode cX9_wedge 50 = .ok (.iconst 3, 1) := by decide +kernel
theorem dX9_wedge_51 : decode cX9_wedge 51 = .ok (.iadd, 1) := by decide +kernel
theorem dX9_wedge_52 : decode cX9_wedge 52 = .ok (.putfield 131, 3) := by decide +kernel
theorem dX9_wedge_55 : decode cX9_wedge 55 = .ok (.aload_n 0, 1) := by decide +kernel
theorem dX9_wedge_56 : decode cX9_wedge 56 = .ok (.getfield 26, 3) := by decide +kernel
theorem dX9_wedge_59 : decode cX9_wedge 59 = .ok (.getfield 131, 3) := by decide +kernel
theorem dX9_wedge_62 : decode cX9_wedge 62 = .ok (.ireturn, 1) := by decide +kernel
theorem dX9_file_0 : decode cX9_file 0 = .ok (.aload_n 0, 1) := by decide +kernel
theorem dX9_file_1 : decode cX9_file 1 = .ok (.getfield 26, 3) := by decide +kernel
theorem dX9_file_4 : decode cX9_file 4 = .ok (.invokevirtual 221, 3) := by decide +kernel
theorem dX9_file_7 : decode cX9_file 7 = .ok (.ifCond .eq 15, 3) := by decide +kernel
theorem dX9_file_10 : decode cX9_file 10 = .ok (.aload_n 0, 1) := by decide +kernel
theorem dX9_file_11 : decode cX9_file 11 = .ok (.getfield 26, 3) := by decide +kernel
theorem dX9_file_14 : decode cX9_file 14 = .ok (.getfield 143, 3) := by decide +kernel
theorem dX9_file_17 : decode cX9_file 17 = .ok (.bipush 9, 2) := by decide +kernel
theorem dX9_file_19 : decode cX9_file 19 = .ok (.if_icmp .lt 6, 3) := by decide +kernel
theorem dX9_file_22 : decode cX9_file 22 = .ok (.ldc 225, 2) := by decide +kernel
theorem dX9_file_24 : decode cX9_file 24 = .ok (.ireturn, 1) := by decide +kernel
theorem dX9_file_25 : decode cX9_file 25 = .ok (.aload_n 0, 1) := by decide +kernel
theorem dX9_file_26 : decode cX9_file 26 = .ok (.getfield 33, 3) := by decide +kernel
theorem dX9_file_29 : decode cX9_file 29 = .ok (.aload_n 0, 1) := by decide +kernel
theorem dX9_file_30 : decode cX9_file 30 = .ok (.getfield 26, 3) := by decide +kernel
theorem dX9_file_33 : decode cX9_file 33 = .ok (.invokevirtual 210, 3) := by decide +kernel
theorem dX9_file_36 : decode cX9_file 36 = .ok (.aload_n 0, 1) := by decide +kernel
theorem dX9_file_37 : decode cX9_file 37 = .ok (.getfield 26, 3) := by decide +kernel
theorem dX9_file_40 : decode cX9_file 40 = .ok (.dup, 1) := by decide +kernel
theorem dX9_file_41 : decode cX9_file 41 = .ok (.getfield 143, 3) := by decide +kernel
theorem dX9_file_44 : decode cX9_file 44 = .ok (.iconst 1, 1) := by decide +kernel
theorem dX9_file_45 : decode cX9_file 45 = .ok (.iadd, 1) := by decide +kernel
theorem dX9_file_46 : decode cX9_file 46 = .ok (.putfield 143, 3) := by decide +kernel
theorem dX9_file_49 : decode cX9_file 49 = .ok (.aload_n 0, 1) := by decide +kernel
theorem dX9_file_50 : decode cX9_file 50 = .ok (.getfield 26, 3) := by decide +kernel
theorem dX9_file_53 : decode cX9_file 53 = .ok (.dup, 1) := by decide +kernel
theorem dX9_file_54 : decode cX9_file 54 = .ok (.getfield 131, 3) := by decide +kernel
theorem dX9_file_57 : decode cX9_file 57 = .ok (.bipush 20, 2) := by decide +kernel
theorem dX9_file_59 : decode cX9_file 59 = .ok (.iadd, 1) := by decide +kernel
theorem dX9_file_60 : decode cX9_file 60 = .ok (.putfield 131, 3) := by decide +kernel
theorem dX9_file_63 : decode cX9_file 63 = .ok (.aload_n 0, 1) := by decide +kernel
theorem dX9_file_64 : decode cX9_file 64 = .ok (.getfield 26, 3) := by decide +kernel
theorem dX9_file_67 : decode cX9_file 67 = .ok (.getfield 143, 3) := by decide +kernel
theorem dX9_file_70 : decode cX9_file 70 = .ok (.ireturn, 1) := by decide +kernel
theorem dX9_wish_0 : decode cX9_wish 0 = .ok (.aload_n 0, 1) := by decide +kernel
theorem dX9_wish_1 : decode cX9_wish 1 = .ok (.getfield 10, 3) := by decide +kernel
theorem dX9_wish_4 : decode cX9_wish 4 = .ok (.iload_n 1, 1) := by decide +kernel
theorem dX9_wish_5 : decode cX9_wish 5 = .ok (.invokevirtual 171, 3) := by decide +kernel
theorem dX9_wish_8 : decode cX9_wish 8 = .ok (.ifCond .ne 6, 3) := by decide +kernel
theorem dX9_wish_11 : decode cX9_wish 11 = .ok (.ldc 160, 2) := by decide +kernel
theorem dX9_wish_13 : decode cX9_wish 13 = .ok (.ireturn, 1) := by decide +kernel
theorem dX9_wish_14 : decode cX9_wish 14 = .ok (.iload_n 2, 1) := by decide +kernel
theorem dX9_wish_15 : decode cX9_wish 15 = .ok (.iconst 1, 1) := by decide +kernel
theorem dX9_wish_16 : decode cX9_wish 16 = .ok (.bipush 20, 2) := by decide +kernel
theorem dX9_wish_18 : decode cX9_wish 18 = .ok (.invokestatic 229, 3) := by decide +kernel
theorem dX9_wish_21 : decode cX9_wish 21 = .ok (.ifCond .eq 19, 3) := by decide +kernel
theorem dX9_wish_24 : decode cX9_wish 24 = .ok (.aload_n 0, 1) := by decide +kernel
theorem dX9_wish_25 : decode cX9_wish 25 = .ok (.aload_n 0, 1) := by decide +kernel
theorem dX9_wish_26 : decode cX9_wish 26 = .ok (.getfield 26, 3) := by decide +kernel
theorem dX9_wish_29 : decode cX9_wish 29 = .ok (.getfield 189, 3) := by decide +kernel
theorem dX9_wish_32 : decode cX9_wish 32 = .ok (.iload_n 1, 1) := by decide +kernel
theorem dX9_wish_33 : decode cX9_wish 33 = .ok (.iload_n 2, 1) := by decide +kernel
theorem dX9_wish_34 : decode cX9_wish 34 = .ok (.invokevirtual 233, 3) := by decide +kernel
theorem dX9_wish_37 : decode cX9_wish 37 = .ok (.goto 5, 3) := by decide +kernel
theorem dX9_wish_40 : decode cX9_wish 40 = .ok (.ldc 73, 2) := by decide +kernel
theorem dX9_wish_42 : decode cX9_wish 42 = .ok (.ireturn, 1) := by decide +kernel
theorem dX9_habit_0 : decode cX9_habit 0 = .ok (.aload_n 0, 1) := by decide +kernel
theorem dX9_habit_1 : decode cX9_habit 1 = .ok (.getfield 10, 3) := by decide +kernel
theorem dX9_habit_4 : decode cX9_habit 4 = .ok (.iload_n 1, 1) := by decide +kernel
theorem dX9_habit_5 : decode cX9_habit 5 = .ok (.invokevirtual 171, 3) := by decide +kernel
theorem dX9_habit_8 : decode cX9_habit 8 = .ok (.ifCond .ne 6, 3) := by decide +kernel
theorem dX9_habit_11 : decode cX9_habit 11 = .ok (.ldc 160, 2) := by decide +kernel
theorem dX9_habit_13 : decode cX9_habit 13 = .ok (.ireturn, 1) := by decide +kernel
theorem dX9_habit_14 : decode cX9_habit 14 = .ok (.iload_n 2, 1) := by decide +kernel
theorem dX9_habit_15 : decode cX9_habit 15 = .ok (.iconst 0, 1) := by decide +kernel
theorem dX9_habit_16 : decode cX9_habit 16 = .ok (.bipush 9, 2) := by decide +kernel
theorem dX9_habit_18 : decode cX9_habit 18 = .ok (.invokestatic 229, 3) := by decide +kernel
theorem dX9_habit_21 : decode cX9_habit 21 = .ok (.ifCond .eq 19, 3) := by decide +kernel
theorem dX9_habit_24 : decode cX9_habit 24 = .ok (.aload_n 0, 1) := by decide +kernel
theorem dX9_habit_25 : decode cX9_habit 25 = .ok (.aload_n 0, 1) := by decide +kernel
theorem dX9_habit_26 : decode cX9_habit 26 = .ok (.getfield 26, 3) := by decide +kernel
theorem dX9_habit_29 : decode cX9_habit 29 = .ok (.getfield 183, 3) := by decide +kernel
theorem dX9_habit_32 : decode cX9_habit 32 = .ok (.iload_n 1, 1) := by decide +kernel
theorem dX9_habit_33 : decode cX9_habit 33 = .ok (.iload_n 2, 1) := by decide +kernel
theorem dX9_habit_34 : decode cX9_habit 34 = .ok (.invokevirtual 233, 3) := by decide +kernel
theorem dX9_habit_37 : decode cX9_habit 37 = .ok (.goto 5, 3) := by decide +kernel
theorem dX9_habit_40 : decode cX9_habit 40 = .ok (.ldc 73, 2) := by decide +kernel
theorem dX9_habit_42 : decode cX9_habit 42 = .ok (.ireturn, 1) := by decide +kernel
theorem dX9_drift_0 : decode cX9_drift 0 = .ok (.aload_n 0, 1) := by decide +kernel
theorem dX9_drift_1 : decode cX9_drift 1 = .ok (.iload_n 1, 1) := by decide +kernel
theorem dX9_drift_2 : decode cX9_drift 2 = .ok (.invokevirtual 206, 3) := by decide +kernel
theorem dX9_drift_5 : decode cX9_drift 5 = .ok (.istore_n 2, 1) := by decide +kernel
theorem dX9_drift_6 : decode cX9_drift 6 = .ok (.iload_n 2, 1) := by decide +kernel
theorem dX9_drift_7 : decode cX9_drift 7 = .ok (.ifCond .eq 5, 3) := by decide +kernel
theorem dX9_drift_10 : decode cX9_drift 10 = .ok (.iload_n 2, 1) := by decide +kernel
theorem dX9_drift_11 : decode cX9_drift 11 = .ok (.ireturn, 1) := by decide +kernel
theorem dX9_drift_12 : decode cX9_drift 12 = .ok (.aload_n 0, 1) := by decide +kernel
theorem dX9_drift_13 : decode cX9_drift 13 = .ok (.getfield 33, 3) := by decide +kernel
theorem dX9_drift_16 : decode cX9_drift 16 = .ok (.aload_n 0, 1) := by decide +kernel
theorem dX9_drift_17 : decode cX9_drift 17 = .ok (.getfield 26, 3) := by decide +kernel
theorem dX9_drift_20 : decode cX9_drift 20 = .ok (.invokevirtual 210, 3) := by decide +kernel
theorem dX9_drift_23 : decode cX9_drift 23 = .ok (.iconst 0, 1) := by decide +kernel
theorem dX9_drift_24 : decode cX9_drift 24 = .ok (.istore_n 3, 1) := by decide +kernel
theorem dX9_drift_25 : decode cX9_drift 25 = .ok (.iload_n 3, 1) := by decide +kernel
theorem dX9_drift_26 : decode cX9_drift 26 = .ok (.iload_n 1, 1) := by decide +kernel
theorem dX9_drift_27 : decode cX9_drift 27 = .ok (.if_icmp .ge 27, 3) := by decide +kernel
theorem dX9_drift_30 : decode cX9_drift 30 = .ok (.aload_n 0, 1) := by decide +kernel
theorem dX9_drift_31 : decode cX9_drift 31 = .ok (.getfield 26, 3) := by decide +kernel
theorem dX9_drift_34 : decode cX9_drift 34 = .ok (.aload_n 0, 1) := by decide +kernel
theorem dX9_drift_35 : decode cX9_drift 35 = .ok (.getfield 10, 3) := by decide +kernel
theorem dX9_drift_38 : decode cX9_drift 38 = .ok (.invokevirtual 155, 3) := by decide +kernel
theorem dX9_drift_41 : decode cX9_drift 41 = .ok (.ifCond .ne 13, 3) := by decide +kernel
theorem dX9_drift_44 : decode cX9_drift 44 = .ok (.aload_n 0, 1) := by decide +kernel
theorem dX9_drift_45 : decode cX9_drift 45 = .ok (.invokevirtual 237, 3) := by decide +kernel
theorem dX9_drift_48 : decode cX9_drift 48 = .ok (.iinc 3 1, 3) := by decide +kernel
theorem dX9_drift_51 : decode cX9_drift 51 = .ok (.goto (-26), 3) := by decide +kernel
theorem dX9_drift_54 : decode cX9_drift 54 = .ok (.aload_n 0, 1) := by decide +kernel
theorem dX9_drift_55 : decode cX9_drift 55 = .ok (.getfield 26, 3) := by decide +kernel
theorem dX9_drift_58 : decode cX9_drift 58 = .ok (.getfield 128, 3) := by decide +kernel
theorem dX9_drift_61 : decode cX9_drift 61 = .ok (.ireturn, 1) := by decide +kernel
theorem dX9_undo_0 : decode cX9_undo 0 = .ok (.iload_n 1, 1) := by decide +kernel
theorem dX9_undo_1 : decode cX9_undo 1 = .ok (.iconst 1, 1) := by decide +kernel
theorem dX9_undo_2 : decode cX9_undo 2 = .ok (.bipush 30, 2) := by decide +kernel
theorem dX9_undo_4 : decode cX9_undo 4 = .ok (.invokestatic 229, 3) := by decide +kernel
theorem dX9_undo_7 : decode cX9_undo 7 = .ok (.ifCond .ne 6, 3) := by decide +kernel
theorem dX9_undo_10 : decode cX9_undo 10 = .ok (.ldc 73, 2) := by decide +kernel
theorem dX9_undo_12 : decode cX9_undo 12 = .ok (.ireturn, 1) := by decide +kernel
theorem dX9_undo_13 : decode cX9_undo 13 = .ok (.iload_n 1, 1) := by decide +kernel
theorem dX9_undo_14 : decode cX9_undo 14 = .ok (.aload_n 0, 1) := by decide +kernel
theorem dX9_undo_15 : decode cX9_undo 15 = .ok (.getfield 33, 3) := by decide +kernel
theorem dX9_undo_18 : decode cX9_undo 18 = .ok (.getfield 159, 3) := by decide +kernel
theorem dX9_undo_21 : decode cX9_undo 21 = .ok (.if_icmp .le 6, 3) := by decide +kernel
theorem dX9_undo_24 : decode cX9_undo 24 = .ok (.ldc 225, 2) := by decide +kernel
theorem dX9_undo_26 : decode cX9_undo 26 = .ok (.ireturn, 1) := by decide +kernel
theorem dX9_undo_27 : decode cX9_undo 27 = .ok (.aload_n 0, 1) := by decide +kernel
theorem dX9_undo_28 : decode cX9_undo 28 = .ok (.getfield 33, 3) := by decide +kernel
theorem dX9_undo_31 : decode cX9_undo 31 = .ok (.iload_n 1, 1) := by decide +kernel
theorem dX9_undo_32 : decode cX9_undo 32 = .ok (.aload_n 0, 1) := by decide +kernel
theorem dX9_undo_33 : decode cX9_undo 33 = .ok (.getfield 26, 3) := by decide +kernel
theorem dX9_undo_36 : decode cX9_undo 36 = .ok (.invokevirtual 240, 3) := by decide +kernel
theorem dX9_undo_39 : decode cX9_undo 39 = .ok (.aload_n 0, 1) := by decide +kernel
theorem dX9_undo_40 : decode cX9_undo 40 = .ok (.getfield 26, 3) := by decide +kernel
theorem dX9_undo_43 : decode cX9_undo 43 = .ok (.getfield 131, 3) := by decide +kernel
theorem dX9_undo_46 : decode cX9_undo 46 = .ok (.ireturn, 1) := by decide +kernel
theorem dX9_toGo_0 : decode cX9_toGo 0 = .ok (.aload_n 0, 1) := by decide +kernel
theorem dX9_toGo_1 : decode cX9_toGo 1 = .ok (.getfield 26, 3) := by decide +kernel
theorem dX9_toGo_4 : decode cX9_toGo 4 = .ok (.invokevirtual 221, 3) := by decide +kernel
theorem dX9_toGo_7 : decode cX9_toGo 7 = .ok (.ifCond .eq 24, 3) := by decide +kernel
theorem dX9_toGo_10 : decode cX9_toGo 10 = .ok (.aload_n 0, 1) := by decide +kernel
theorem dX9_toGo_11 : decode cX9_toGo 11 = .ok (.getfield 40, 3) := by decide +kernel
theorem dX9_toGo_14 : decode cX9_toGo 14 = .ok (.aload_n 0, 1) := by decide +kernel
theorem dX9_toGo_15 : decode cX9_toGo 15 = .ok (.getfield 10, 3) := by decide +kernel
theorem dX9_toGo_18 : decode cX9_toGo 18 = .ok (.aload_n 0, 1) := by decide +kernel
theorem dX9_toGo_19 : decode cX9_toGo 19 = .ok (.getfield 26, 3) := by decide +kernel
theorem dX9_toGo_22 : decode cX9_toGo 22 = .ok (.invokevirtual 244, 3) := by decide +kernel
theorem dX9_toGo_25 : decode cX9_toGo 25 = .ok (.invokestatic 248, 3) := by decide +kernel
theorem dX9_toGo_28 : decode cX9_toGo 28 = .ok (.goto 5, 3) := by decide +kernel
theorem dX9_toGo_31 : decode cX9_toGo 31 = .ok (.ldc 225, 2) := by decide +kernel
theorem dX9_toGo_33 : decode cX9_toGo 33 = .ok (.ireturn, 1) := by decide +kernel
theorem dX9_fresh_0 : decode cX9_fresh 0 = .ok (.aload_n 0, 1) := by decide +kernel
theorem dX9_fresh_1 : decode cX9_fresh 1 = .ok (.iload_n 1, 1) := by decide +kernel
theorem dX9_fresh_2 : decode cX9_fresh 2 = .ok (.iload_n 2, 1) := by decide +kernel
theorem dX9_fresh_3 : decode cX9_fresh 3 = .ok (.invokevirtual 198, 3) := by decide +kernel
theorem dX9_fresh_6 : decode cX9_fresh 6 = .ok (.istore_n 3, 1) := by decide +kernel
theorem dX9_fresh_7 : decode cX9_fresh 7 = .ok (.iload_n 3, 1) := by decide +kernel
theorem dX9_fresh_8 : decode cX9_fresh 8 = .ok (.ifCond .eq 7, 3) := by decide +kernel
theorem dX9_fresh_11 : decode cX9_fresh 11 = .ok (.iload_n 3, 1) := by decide +kernel
theorem dX9_fresh_12 : decode cX9_fresh 12 = .ok (.goto 23, 3) := by decide +kernel
theorem dX9_fresh_15 : decode cX9_fresh 15 = .ok (.aload_n 0, 1) := by decide +kernel
theorem dX9_fresh_16 : decode cX9_fresh 16 = .ok (.getfield 40, 3) := by decide +kernel
theorem dX9_fresh_19 : decode cX9_fresh 19 = .ok (.aload_n 0, 1) := by decide +kernel
theorem dX9_fresh_20 : decode cX9_fresh 20 = .ok (.getfield 10, 3) := by decide +kernel
theorem dX9_fresh_23 : decode cX9_fresh 23 = .ok (.aload_n 0, 1) := by decide +kernel
theorem dX9_fresh_24 : decode cX9_fresh 24 = .ok (.getfield 26, 3) := by decide +kernel
theorem dX9_fresh_27 : decode cX9_fresh 27 = .ok (.iload_n 1, 1) := by decide +kernel
theorem dX9_fresh_28 : decode cX9_fresh 28 = .ok (.iload_n 2, 1) := by decide +kernel
theorem dX9_fresh_29 : decode cX9_fresh 29 = .ok (.invokevirtual 251, 3) := by decide +kernel
theorem dX9_fresh_32 : decode cX9_fresh 32 = .ok (.invokestatic 248, 3) := by decide +kernel
theorem dX9_fresh_35 : decode cX9_fresh 35 = .ok (.ireturn, 1) := by decide +kernel
theorem dX9_wishes_0 : decode cX9_wishes 0 = .ok (.aload_n 0, 1) := by decide +kernel
theorem dX9_wishes_1 : decode cX9_wishes 1 = .ok (.getfield 10, 3) := by decide +kernel
theorem dX9_wishes_4 : decode cX9_wishes 4 = .ok (.iload_n 1, 1) := by decide +kernel
theorem dX9_wishes_5 : decode cX9_wishes 5 = .ok (.iload_n 2, 1) := by decide +kernel
theorem dX9_wishes_6 : decode cX9_wishes 6 = .ok (.invokevirtual 255, 3) := by decide +kernel
theorem dX9_wishes_9 : decode cX9_wishes 9 = .ok (.ifCond .ne 6, 3) := by decide +kernel
theorem dX9_wishes_12 : decode cX9_wishes 12 = .ok (.ldc 160, 2) := by decide +kernel
theorem dX9_wishes_14 : decode cX9_wishes 14 = .ok (.ireturn, 1) := by decide +kernel
theorem dX9_wishes_15 : decode cX9_wishes 15 = .ok (.iload_n 3, 1) := by decide +kernel
theorem dX9_wishes_16 : decode cX9_wishes 16 = .ok (.iconst 0, 1) := by decide +kernel
theorem dX9_wishes_17 : decode cX9_wishes 17 = .ok (.iconst 2, 1) := by decide +kernel
theorem dX9_wishes_18 : decode cX9_wishes 18 = .ok (.invokestatic 229, 3) := by decide +kernel
theorem dX9_wishes_21 : decode cX9_wishes 21 = .ok (.ifCond .ne 6, 3) := by decide +kernel
theorem dX9_wishes_24 : decode cX9_wishes 24 = .ok (.ldc 73, 2) := by decide +kernel
theorem dX9_wishes_26 : decode cX9_wishes 26 = .ok (.ireturn, 1) := by decide +kernel
theorem dX9_wishes_27 : decode cX9_wishes 27 = .ok (.aload_n 0, 1) := by decide +kernel
theorem dX9_wishes_28 : decode cX9_wishes 28 = .ok (.getfield 10, 3) := by decide +kernel
theorem dX9_wishes_31 : decode cX9_wishes 31 = .ok (.getfield 110, 3) := by decide +kernel
theorem dX9_wishes_34 : decode cX9_wishes 34 = .ok (.ifCond .ne 6, 3) := by decide +kernel
theorem dX9_wishes_37 : decode cX9_wishes 37 = .ok (.ldc 225, 2) := by decide +kernel
theorem dX9_wishes_39 : decode cX9_wishes 39 = .ok (.ireturn, 1) := by decide +kernel
theorem dX9_wishes_40 : decode cX9_wishes 40 = .ok (.aload_n 0, 1) := by decide +kernel
theorem dX9_wishes_41 : decode cX9_wishes 41 = .ok (.getfield 40, 3) := by decide +kernel
theorem dX9_wishes_44 : decode cX9_wishes 44 = .ok (.aload_n 0, 1) := by decide +kernel
theorem dX9_wishes_45 : decode cX9_wishes 45 = .ok (.getfield 10, 3) := by decide +kernel
theorem dX9_wishes_48 : decode cX9_wishes 48 = .ok (.aload_n 0, 1) := by decide +kernel
theorem dX9_wishes_49 : decode cX9_wishes 49 = .ok (.getfield 26, 3) := by decide +kernel
theorem dX9_wishes_52 : decode cX9_wishes 52 = .ok (.iload_n 1, 1) := by decide +kernel
theorem dX9_wishes_53 : decode cX9_wishes 53 = .ok (.iload_n 2, 1) := by decide +kernel
theorem dX9_wishes_54 : decode cX9_wishes 54 = .ok (.invokevirtual 259, 3) := by decide +kernel
theorem dX9_wishes_57 : decode cX9_wishes 57 = .ok (.aload_n 0, 1) := by decide +kernel
theorem dX9_wishes_58 : decode cX9_wishes 58 = .ok (.getfield 40, 3) := by decide +kernel
theorem dX9_wishes_61 : decode cX9_wishes 61 = .ok (.getfield 263, 3) := by decide +kernel
theorem dX9_wishes_64 : decode cX9_wishes 64 = .ok (.sipush 1000, 3) := by decide +kernel
theorem dX9_wishes_67 : decode cX9_wishes 67 = .ok (.if_icmp .ne 5, 3) := by decide +kernel
theorem dX9_wishes_70 : decode cX9_wishes 70 = .ok (.iconst (-1), 1) := by decide +kernel
theorem dX9_wishes_71 : decode cX9_wishes 71 = .ok (.ireturn, 1) := by decide +kernel
theorem dX9_wishes_72 : decode cX9_wishes 72 = .ok (.iload_n 3, 1) := by decide +kernel
theorem dX9_wishes_73 : decode cX9_wishes 73 = .ok (.ifCond .ne 13, 3) := by decide +kernel
theorem dX9_wishes_76 : decode cX9_wishes 76 = .ok (.aload_n 0, 1) := by decide +kernel
theorem dX9_wishes_77 : decode cX9_wishes 77 = .ok (.getfield 40, 3) := by decide +kernel
theorem dX9_wishes_80 : decode cX9_wishes 80 = .ok (.getfield 263, 3) := by decide +kernel
theorem dX9_wishes_83 : decode cX9_wishes 83 = .ok (.goto 25, 3) := by decide +kernel
theorem dX9_wishes_86 : decode cX9_wishes 86 = .ok (.iload_n 3, 1) := by decide +kernel
theorem dX9_wishes_87 : decode cX9_wishes 87 = .ok (.iconst 1, 1) := by decide +kernel
theorem dX9_wishes_88 : decode cX9_wishes 88 = .ok (.if_icmp .ne 13, 3) := by decide +kernel
theorem dX9_wishes_91 : decode cX9_wishes 91 = .ok (.aload_n 0, 1) := by decide +kernel
theorem dX9_wishes_92 : decode cX9_wishes 92 = .ok (.getfield 40, 3) := by decide +kernel
theorem dX9_wishes_95 : decode cX9_wishes 95 = .ok (.getfield 266, 3) := by decide +kernel
theorem dX9_wishes_98 : decode cX9_wishes 98 = .ok (.goto 10, 3) := by decide +kernel
theorem dX9_wishes_101 : decode cX9_wishes 101 = .ok (.aload_n 0, 1) := by decide +kernel
theorem dX9_wishes_102 : decode cX9_wishes 102 = .ok (.getfield 40, 3) := by decide +kernel
theorem dX9_wishes_105 : decode cX9_wishes 105 = .ok (.getfield 269, 3) := by decide +kernel
theorem dX9_wishes_108 : decode cX9_wishes 108 = .ok (.ireturn, 1) := by decide +kernel
theorem dX9_quarrel_0 : decode cX9_quarrel 0 = .ok (.aload_n 0, 1) := by decide +kernel
theorem dX9_quarrel_1 : decode cX9_quarrel 1 = .ok (.iload_n 1, 1) := by decide +kernel
theorem dX9_quarrel_2 : decode cX9_quarrel 2 = .ok (.iload_n 2, 1) := by decide +kernel
theorem dX9_quarrel_3 : decode cX9_quarrel 3 = .ok (.invokevirtual 198, 3) := by decide +kernel
theorem dX9_quarrel_6 : decode cX9_quarrel 6 = .ok (.istore_n 3, 1) := by decide +kernel
theorem dX9_quarrel_7 : decode cX9_quarrel 7 = .ok (.iload_n 3, 1) := by decide +kernel
theorem dX9_quarrel_8 : decode cX9_quarrel 8 = .ok (.ifCond .eq 7, 3) := by decide +kernel
theorem dX9_quarrel_11 : decode cX9_quarrel 11 = .ok (.iload_n 3, 1) := by decide +kernel
theorem dX9_quarrel_12 : decode cX9_quarrel 12 = .ok (.goto 20, 3) := by decide +kernel
theorem dX9_quarrel_15 : decode cX9_quarrel 15 = .ok (.aload_n 0, 1) := by decide +kernel
theorem dX9_quarrel_16 : decode cX9_quarrel 16 = .ok (.getfield 40, 3) := by decide +kernel
theorem dX9_quarrel_19 : decode cX9_quarrel 19 = .ok (.aload_n 0, 1) := by decide +kernel
theorem dX9_quarrel_20 : decode cX9_quarrel 20 = .ok (.getfield 10, 3) := by decide +kernel
theorem dX9_quarrel_23 : decode cX9_quarrel 23 = .ok (.aload_n 0, 1) := by decide +kernel
theorem dX9_quarrel_24 : decode cX9_quarrel 24 = .ok (.getfield 26, 3) := by decide +kernel
theorem dX9_quarrel_27 : decode cX9_quarrel 27 = .ok (.iload_n 1, 1) := by decide +kernel
theorem dX9_quarrel_28 : decode cX9_quarrel 28 = .ok (.iload_n 2, 1) := by decide +kernel
theorem dX9_quarrel_29 : decode cX9_quarrel 29 = .ok (.invokevirtual 272, 3) := by decide +kernel
theorem dX9_quarrel_32 : decode cX9_quarrel 32 = .ok (.ireturn, 1) := by decide +kernel
theorem dX9_withWhom_0 : decode cX9_withWhom 0 = .ok (.iload_n 1, 1) := by decide +kernel
theorem dX9_withWhom_1 : decode cX9_withWhom 1 = .ok (.iconst 0, 1) := by decide +kernel
theorem dX9_withWhom_2 : decode cX9_withWhom 2 = .ok (.iconst 1, 1) := by decide +kernel
theorem dX9_withWhom_3 : decode cX9_withWhom 3 = .ok (.invokestatic 229, 3) := by decide +kernel
theorem dX9_withWhom_6 : decode cX9_withWhom 6 = .ok (.ifCond .ne 6, 3) := by decide +kernel
theorem dX9_withWhom_9 : decode cX9_withWhom 9 = .ok (.ldc 73, 2) := by decide +kernel
theorem dX9_withWhom_11 : decode cX9_withWhom 11 = .ok (.ireturn, 1) := by decide +kernel
theorem dX9_withWhom_12 : decode cX9_withWhom 12 = .ok (.aload_n 0, 1) := by decide +kernel
theorem dX9_withWhom_13 : decode cX9_withWhom 13 = .ok (.getfield 10, 3) := by decide +kernel
theorem dX9_withWhom_16 : decode cX9_withWhom 16 = .ok (.getfield 110, 3) := by decide +kernel
theorem dX9_withWhom_19 : decode cX9_withWhom 19 = .ok (.ifCond .ne 6, 3) := by decide +kernel
theorem dX9_withWhom_22 : decode cX9_withWhom 22 = .ok (.ldc 225, 2) := by decide +kernel
theorem dX9_withWhom_24 : decode cX9_withWhom 24 = .ok (.ireturn, 1) := by decide +kernel
theorem dX9_withWhom_25 : decode cX9_withWhom 25 = .ok (.aload_n 0, 1) := by decide +kernel
theorem dX9_withWhom_26 : decode cX9_withWhom 26 = .ok (.getfield 40, 3) := by decide +kernel
theorem dX9_withWhom_29 : decode cX9_withWhom 29 = .ok (.aload_n 0, 1) := by decide +kernel
theorem dX9_withWhom_30 : decode cX9_withWhom 30 = .ok (.getfield 10, 3) := by decide +kernel
theorem dX9_withWhom_33 : decode cX9_withWhom 33 = .ok (.aload_n 0, 1) := by decide +kernel
theorem dX9_withWhom_34 : decode cX9_withWhom 34 = .ok (.getfield 26, 3) := by decide +kernel
theorem dX9_withWhom_37 : decode cX9_withWhom 37 = .ok (.invokevirtual 275, 3) := by decide +kernel
theorem dX9_withWhom_40 : decode cX9_withWhom 40 = .ok (.istore_n 2, 1) := by decide +kernel
theorem dX9_withWhom_41 : decode cX9_withWhom 41 = .ok (.iload_n 2, 1) := by decide +kernel
theorem dX9_withWhom_42 : decode cX9_withWhom 42 = .ok (.iconst (-1), 1) := by decide +kernel
theorem dX9_withWhom_43 : decode cX9_withWhom 43 = .ok (.if_icmp .eq 8, 3) := by decide +kernel
theorem dX9_withWhom_46 : decode cX9_withWhom 46 = .ok (.iload_n 1, 1) := by decide +kernel
theorem dX9_withWhom_47 : decode cX9_withWhom 47 = .ok (.iconst 1, 1) := by decide +kernel
theorem dX9_withWhom_48 : decode cX9_withWhom 48 = .ok (.if_icmp .ne 7, 3) := by decide +kernel
theorem dX9_withWhom_51 : decode cX9_withWhom 51 = .ok (.iload_n 2, 1) := by decide +kernel
theorem dX9_withWhom_52 : decode cX9_withWhom 52 = .ok (.goto 10, 3) := by decide +kernel
theorem dX9_withWhom_55 : decode cX9_withWhom 55 = .ok (.aload_n 0, 1) := by decide +kernel
theorem dX9_withWhom_56 : decode cX9_withWhom 56 = .ok (.getfield 40, 3) := by decide +kernel
theorem dX9_withWhom_59 : decode cX9_withWhom 59 = .ok (.getfield 263, 3) := by decide +kernel
theorem dX9_withWhom_62 : decode cX9_withWhom 62 = .ok (.ireturn, 1) := by decide +kernel
theorem dX9_changes_0 : decode cX9_changes 0 = .ok (.iload_n 1, 1) := by decide +kernel
theorem dX9_changes_1 : decode cX9_changes 1 = .ok (.iconst 1, 1) := by decide +kernel
theorem dX9_changes_2 : decode cX9_changes 2 = .ok (.bipush 30, 2) := by decide +kernel
theorem dX9_changes_4 : decode cX9_changes 4 = .ok (.invokestatic 229, 3) := by decide +kernel
theorem dX9_changes_7 : decode cX9_changes 7 = .ok (.ifCond .eq 23, 3) := by decide +kernel
theorem dX9_changes_10 : decode cX9_changes 10 = .ok (.iload_n 2, 1) := by decide +kernel
theorem dX9_changes_11 : decode cX9_changes 11 = .ok (.iconst 0, 1) := by decide +kernel
theorem dX9_changes_12 : decode cX9_changes 12 = .ok (.sipush 999, 3) := by decide +kernel
theorem dX9_changes_15 : decode cX9_changes 15 = .ok (.invokestatic 229, 3) := by decide +kernel
theorem dX9_changes_18 : decode cX9_changes 18 = .ok (.ifCond .eq 12, 3) := by decide +kernel
theorem dX9_changes_21 : decode cX9_changes 21 = .ok (.iload_n 3, 1) := by decide +kernel
theorem dX9_changes_22 : decode cX9_changes 22 = .ok (.iconst 0, 1) := by decide +kernel
theorem dX9_changes_23 : decode cX9_changes 23 = .ok (.iconst 1, 1) := by decide +kernel
theorem dX9_changes_24 : decode cX9_changes 24 = .ok (.invokestatic 229, 3) := by decide +kernel
theorem dX9_changes_27 : decode cX9_changes 27 = .ok (.ifCond .ne 6, 3) := by decide +kernel
theorem dX9_changes_30 : decode cX9_changes 30 = .ok (.ldc 73, 2) := by decide +kernel
theorem dX9_changes_32 : decode cX9_changes 32 = .ok (.ireturn, 1) := by decide +kernel
theorem dX9_changes_33 : decode cX9_changes 33 = .ok (.aload_n 0, 1) := by decide +kernel
theorem dX9_changes_34 : decode cX9_changes 34 = .ok (.getfield 26, 3) := by decide +kernel
theorem dX9_changes_37 : decode cX9_changes 37 = .ok (.invokevirtual 221, 3) := by decide +kernel
theorem dX9_changes_40 : decode cX9_changes 40 = .ok (.ifCond .ne 6, 3) := by decide +kernel
theorem dX9_changes_43 : decode cX9_changes 43 = .ok (.ldc 225, 2) := by decide +kernel
theorem dX9_changes_45 : decode cX9_changes 45 = .ok (.ireturn, 1) := by decide +kernel
theorem dX9_changes_46 : decode cX9_changes 46 = .ok (.aload_n 0, 1) := by decide +kernel
theorem dX9_changes_47 : decode cX9_changes 47 = .ok (.getfield 47, 3) := by decide +kernel
theorem dX9_changes_50 : decode cX9_changes 50 = .ok (.aload_n 0, 1) := by decide +kernel
theorem dX9_changes_51 : decode cX9_changes 51 = .ok (.getfield 26, 3) := by decide +kernel
theorem dX9_changes_54 : decode cX9_changes 54 = .ok (.getfield 134, 3) := by decide +kernel
theorem dX9_changes_57 : decode cX9_changes 57 = .ok (.aload_n 0, 1) := by decide +kernel
theorem dX9_changes_58 : decode cX9_changes 58 = .ok (.getfield 26, 3) := by decide +kernel
theorem dX9_changes_61 : decode cX9_changes 61 = .ok (.aload_n 0, 1) := by decide +kernel
theorem dX9_changes_62 : decode cX9_changes 62 = .ok (.getfield 10, 3) := by decide +kernel
theorem dX9_changes_65 : decode cX9_changes 65 = .ok (.invokevirtual 278, 3) := by decide +kernel
theorem dX9_changes_68 : decode cX9_changes 68 = .ok (.iload_n 1, 1) := by decide +kernel
theorem dX9_changes_69 : decode cX9_changes 69 = .ok (.iload_n 2, 1) := by decide +kernel
theorem dX9_changes_70 : decode cX9_changes 70 = .ok (.invokevirtual 281, 3) := by decide +kernel
theorem dX9_changes_73 : decode cX9_changes 73 = .ok (.iload_n 3, 1) := by decide +kernel
theorem dX9_changes_74 : decode cX9_changes 74 = .ok (.ifCond .ne 13, 3) := by decide +kernel
theorem dX9_changes_77 : decode cX9_changes 77 = .ok (.aload_n 0, 1) := by decide +kernel
theorem dX9_changes_78 : decode cX9_changes 78 = .ok (.getfield 47, 3) := by decide +kernel
theorem dX9_changes_81 : decode cX9_changes 81 = .ok (.getfield 285, 3) := by decide +kernel
theorem dX9_changes_84 : decode cX9_changes 84 = .ok (.goto 10, 3) := by decide +kernel
theorem dX9_changes_87 : decode cX9_changes 87 = .ok (.aload_n 0, 1) := by decide +kernel
theorem dX9_changes_88 : decode cX9_changes 88 = .ok (.getfield 47, 3) := by decide +kernel
theorem dX9_changes_91 : decode cX9_changes 91 = .ok (.getfield 286, 3) := by decide +kernel
theorem dX9_changes_94 : decode cX9_changes 94 = .ok (.ireturn, 1) := by decide +kernel
theorem dX9_whenWedge_0 : decode cX9_whenWedge 0 = .ok (.iload_n 1, 1) := by decide +kernel
theorem dX9_whenWedge_1 : decode cX9_whenWedge 1 = .ok (.iconst 0, 1) := by decide +kernel
theorem dX9_whenWedge_2 : decode cX9_whenWedge 2 = .ok (.iconst 1, 1) := by decide +kernel
theorem dX9_whenWedge_3 : decode cX9_whenWedge 3 = .ok (.invokestatic 229, 3) := by decide +kernel
theorem dX9_whenWedge_6 : decode cX9_whenWedge 6 = .ok (.ifCond .ne 6, 3) := by decide +kernel
theorem dX9_whenWedge_9 : decode cX9_whenWedge 9 = .ok (.ldc 73, 2) := by decide +kernel
theorem dX9_whenWedge_11 : decode cX9_whenWedge 11 = .ok (.ireturn, 1) := by decide +kernel
theorem dX9_whenWedge_12 : decode cX9_whenWedge 12 = .ok (.aload_n 0, 1) := by decide +kernel
theorem dX9_whenWedge_13 : decode cX9_whenWedge 13 = .ok (.getfield 26, 3) := by decide +kernel
theorem dX9_whenWedge_16 : decode cX9_whenWedge 16 = .ok (.invokevirtual 221, 3) := by decide +kernel
theorem dX9_whenWedge_19 : decode cX9_whenWedge 19 = .ok (.ifCond .ne 6, 3) := by decide +kernel
theorem dX9_whenWedge_22 : decode cX9_whenWedge 22 = .ok (.ldc 225, 2) := by decide +kernel
theorem dX9_whenWedge_24 : decode cX9_whenWedge 24 = .ok (.ireturn, 1) := by decide +kernel
theorem dX9_whenWedge_25 : decode cX9_whenWedge 25 = .ok (.aload_n 0, 1) := by decide +kernel
theorem dX9_whenWedge_26 : decode cX9_whenWedge 26 = .ok (.getfield 40, 3) := by decide +kernel
theorem dX9_whenWedge_29 : decode cX9_whenWedge 29 = .ok (.aload_n 0, 1) := by decide +kernel
theorem dX9_whenWedge_30 : decode cX9_whenWedge 30 = .ok (.getfield 10, 3) := by decide +kernel
theorem dX9_whenWedge_33 : decode cX9_whenWedge 33 = .ok (.aload_n 0, 1) := by decide +kernel
theorem dX9_whenWedge_34 : decode cX9_whenWedge 34 = .ok (.getfield 26, 3) := by decide +kernel
theorem dX9_whenWedge_37 : decode cX9_whenWedge 37 = .ok (.invokevirtual 289, 3) := by decide +kernel
theorem dX9_whenWedge_40 : decode cX9_whenWedge 40 = .ok (.istore_n 2, 1) := by decide +kernel
theorem dX9_whenWedge_41 : decode cX9_whenWedge 41 = .ok (.iload_n 2, 1) := by decide +kernel
theorem dX9_whenWedge_42 : decode cX9_whenWedge 42 = .ok (.iconst (-1), 1) := by decide +kernel
theorem dX9_whenWedge_43 : decode cX9_whenWedge 43 = .ok (.if_icmp .eq 7, 3) := by decide +kernel
theorem dX9_whenWedge_46 : decode cX9_whenWedge 46 = .ok (.iload_n 1, 1) := by decide +kernel
theorem dX9_whenWedge_47 : decode cX9_whenWedge 47 = .ok (.ifCond .ne 7, 3) := by decide +kernel
theorem dX9_whenWedge_50 : decode cX9_whenWedge 50 = .ok (.iload_n 2, 1) := by decide +kernel
theorem dX9_whenWedge_51 : decode cX9_whenWedge 51 = .ok (.goto 10, 3) := by decide +kernel
theorem dX9_whenWedge_54 : decode cX9_whenWedge 54 = .ok (.aload_n 0, 1) := by decide +kernel
theorem dX9_whenWedge_55 : decode cX9_whenWedge 55 = .ok (.getfield 40, 3) := by decide +kernel
theorem dX9_whenWedge_58 : decode cX9_whenWedge 58 = .ok (.getfield 263, 3) := by decide +kernel
theorem dX9_whenWedge_61 : decode cX9_whenWedge 61 = .ok (.ireturn, 1) := by decide +kernel
theorem dX9_whenRest_0 : decode cX9_whenRest 0 = .ok (.iload_n 1, 1) := by decide +kernel
theorem dX9_whenRest_1 : decode cX9_whenRest 1 = .ok (.iconst 1, 1) := by decide +kernel
theorem dX9_whenRest_2 : decode cX9_whenRest 2 = .ok (.bipush 10, 2) := by decide +kernel
theorem dX9_whenRest_4 : decode cX9_whenRest 4 = .ok (.invokestatic 229, 3) := by decide +kernel
theorem dX9_whenRest_7 : decode cX9_whenRest 7 = .ok (.ifCond .eq 12, 3) := by decide +kernel
theorem dX9_whenRest_10 : decode cX9_whenRest 10 = .ok (.iload_n 2, 1) := by decide +kernel
theorem dX9_whenRest_11 : decode cX9_whenRest 11 = .ok (.iconst 0, 1) := by decide +kernel
theorem dX9_whenRest_12 : decode cX9_whenRest 12 = .ok (.iconst 1, 1) := by decide +kernel
theorem dX9_whenRest_13 : decode cX9_whenRest 13 = .ok (.invokestatic 229, 3) := by decide +kernel
theorem dX9_whenRest_16 : decode cX9_whenRest 16 = .ok (.ifCond .ne 6, 3) := by decide +kernel
theorem dX9_whenRest_19 : decode cX9_whenRest 19 = .ok (.ldc 73, 2) := by decide +kernel
theorem dX9_whenRest_21 : decode cX9_whenRest 21 = .ok (.ireturn, 1) := by decide +kernel
theorem dX9_whenRest_22 : decode cX9_whenRest 22 = .ok (.aload_n 0, 1) := by decide +kernel
theorem dX9_whenRest_23 : decode cX9_whenRest 23 = .ok (.getfield 26, 3) := by decide +kernel
theorem dX9_whenRest_26 : decode cX9_whenRest 26 = .ok (.invokevirtual 221, 3) := by decide +kernel
theorem dX9_whenRest_29 : decode cX9_whenRest 29 = .ok (.ifCond .ne 6, 3) := by decide +kernel
theorem dX9_whenRest_32 : decode cX9_whenRest 32 = .ok (.ldc 225, 2) := by decide +kernel
theorem dX9_whenRest_34 : decode cX9_whenRest 34 = .ok (.ireturn, 1) := by decide +kernel
theorem dX9_whenRest_35 : decode cX9_whenRest 35 = .ok (.aload_n 0, 1) := by decide +kernel
theorem dX9_whenRest_36 : decode cX9_whenRest 36 = .ok (.getfield 40, 3) := by decide +kernel
theorem dX9_whenRest_39 : decode cX9_whenRest 39 = .ok (.aload_n 0, 1) := by decide +kernel
theorem dX9_whenRest_40 : decode cX9_whenRest 40 = .ok (.getfield 10, 3) := by decide +kernel
theorem dX9_whenRest_43 : decode cX9_whenRest 43 = .ok (.aload_n 0, 1) := by decide +kernel
theorem dX9_whenRest_44 : decode cX9_whenRest 44 = .ok (.getfield 26, 3) := by decide +kernel
theorem dX9_whenRest_47 : decode cX9_whenRest 47 = .ok (.iload_n 1, 1) := by decide +kernel
theorem dX9_whenRest_48 : decode cX9_whenRest 48 = .ok (.invokevirtual 292, 3) := by decide +kernel
theorem dX9_whenRest_51 : decode cX9_whenRest 51 = .ok (.istore_n 3, 1) := by decide +kernel
theorem dX9_whenRest_52 : decode cX9_whenRest 52 = .ok (.iload_n 2, 1) := by decide +kernel
theorem dX9_whenRest_53 : decode cX9_whenRest 53 = .ok (.ifCond .ne 13, 3) := by decide +kernel
theorem dX9_whenRest_56 : decode cX9_whenRest 56 = .ok (.aload_n 0, 1) := by decide +kernel
theorem dX9_whenRest_57 : decode cX9_whenRest 57 = .ok (.getfield 40, 3) := by decide +kernel
theorem dX9_whenRest_60 : decode cX9_whenRest 60 = .ok (.getfield 296, 3) := by decide +kernel
theorem dX9_whenRest_63 : decode cX9_whenRest 63 = .ok (.goto 4, 3) := by decide +kernel
theorem dX9_whenRest_66 : decode cX9_whenRest 66 = .ok (.iload_n 3, 1) := by decide +kernel
theorem dX9_whenRest_67 : decode cX9_whenRest 67 = .ok (.ireturn, 1) := by decide +kernel
theorem dX9_worthFile_0 : decode cX9_worthFile 0 = .ok (.aload_n 0, 1) := by decide +kernel
theorem dX9_worthFile_1 : decode cX9_worthFile 1 = .ok (.getfield 26, 3) := by decide +kernel
theorem dX9_worthFile_4 : decode cX9_worthFile 4 = .ok (.invokevirtual 221, 3) := by decide +kernel
theorem dX9_worthFile_7 : decode cX9_worthFile 7 = .ok (.ifCond .eq 21, 3) := by decide +kernel
theorem dX9_worthFile_10 : decode cX9_worthFile 10 = .ok (.aload_n 0, 1) := by decide +kernel
theorem dX9_worthFile_11 : decode cX9_worthFile 11 = .ok (.getfield 40, 3) := by decide +kernel
theorem dX9_worthFile_14 : decode cX9_worthFile 14 = .ok (.aload_n 0, 1) := by decide +kernel
theorem dX9_worthFile_15 : decode cX9_worthFile 15 = .ok (.getfield 10, 3) := by decide +kernel
theorem dX9_worthFile_18 : decode cX9_worthFile 18 = .ok (.aload_n 0, 1) := by decide +kernel
theorem dX9_worthFile_19 : decode cX9_worthFile 19 = .ok (.getfield 26, 3) := by decide +kernel
theorem dX9_worthFile_22 : decode cX9_worthFile 22 = .ok (.invokevirtual 299, 3) := by decide +kernel
theorem dX9_worthFile_25 : decode cX9_worthFile 25 = .ok (.goto 5, 3) := by decide +kernel
theorem dX9_worthFile_28 : decode cX9_worthFile 28 = .ok (.ldc 225, 2) := by decide +kernel
theorem dX9_worthFile_30 : decode cX9_worthFile 30 = .ok (.ireturn, 1) := by decide +kernel
theorem dX9_see_0 : decode cX9_see 0 = .ok (.aload_n 0, 1) := by decide +kernel
theorem dX9_see_1 : decode cX9_see 1 = .ok (.getfield 56, 3) := by decide +kernel
theorem dX9_see_4 : decode cX9_see 4 = .ok (.iload_n 1, 1) := by decide +kernel
theorem dX9_see_5 : decode cX9_see 5 = .ok (.invokestatic 302, 3) := by decide +kernel
theorem dX9_see_8 : decode cX9_see 8 = .ok (.ireturn, 1) := by decide +kernel
theorem dX9_habits_0 : decode cX9_habits 0 = .ok (.aload_n 0, 1) := by decide +kernel
theorem dX9_habits_1 : decode cX9_habits 1 = .ok (.iload_n 1, 1) := by decide +kernel
theorem dX9_habits_2 : decode cX9_habits 2 = .ok (.iload_n 2, 1) := by decide +kernel
theorem dX9_habits_3 : decode cX9_habits 3 = .ok (.invokevirtual 198, 3) := by decide +kernel
theorem dX9_habits_6 : decode cX9_habits 6 = .ok (.istore_n 3, 1) := by decide +kernel
theorem dX9_habits_7 : decode cX9_habits 7 = .ok (.iload_n 3, 1) := by decide +kernel
theorem dX9_habits_8 : decode cX9_habits 8 = .ok (.ifCond .eq 7, 3) := by decide +kernel
theorem dX9_habits_11 : decode cX9_habits 11 = .ok (.iload_n 3, 1) := by decide +kernel
theorem dX9_habits_12 : decode cX9_habits 12 = .ok (.goto 24, 3) := by decide +kernel
theorem dX9_habits_15 : decode cX9_habits 15 = .ok (.aload_n 0, 1) := by decide +kernel
theorem dX9_habits_16 : decode cX9_habits 16 = .ok (.getfield 40, 3) := by decide +kernel
theorem dX9_habits_19 : decode cX9_habits 19 = .ok (.aload_n 0, 1) := by decide +kernel
theorem dX9_habits_20 : decode cX9_habits 20 = .ok (.getfield 10, 3) := by decide +kernel
theorem dX9_habits_23 : decode cX9_habits 23 = .ok (.aload_n 0, 1) := by decide +kernel
theorem dX9_habits_24 : decode cX9_habits 24 = .ok (.getfield 26, 3) := by decide +kernel
theorem dX9_habits_27 : decode cX9_habits 27 = .ok (.iload_n 1, 1) := by decide +kernel
theorem dX9_habits_28 : decode cX9_habits 28 = .ok (.iload_n 2, 1) := by decide +kernel
theorem dX9_habits_29 : decode cX9_habits 29 = .ok (.aload_n 0, 1) := by decide +kernel
theorem dX9_habits_30 : decode cX9_habits 30 = .ok (.getfield 56, 3) := by decide +kernel
theorem dX9_habits_33 : decode cX9_habits 33 = .ok (.invokevirtual 306, 3) := by decide +kernel
theorem dX9_habits_36 : decode cX9_habits 36 = .ok (.ireturn, 1) := by decide +kernel
theorem dX9_end_0 : decode cX9_end 0 = .ok (.aload_n 0, 1) := by decide +kernel
theorem dX9_end_1 : decode cX9_end 1 = .ok (.getfield 10, 3) := by decide +kernel
theorem dX9_end_4 : decode cX9_end 4 = .ok (.getfield 110, 3) := by decide +kernel
theorem dX9_end_7 : decode cX9_end 7 = .ok (.ifCond .ne 8, 3) := by decide +kernel
theorem dX9_end_10 : decode cX9_end 10 = .ok (.ldc 225, 2) := by decide +kernel
theorem dX9_end_12 : decode cX9_end 12 = .ok (.goto 23, 3) := by decide +kernel
theorem dX9_end_15 : decode cX9_end 15 = .ok (.aload_n 0, 1) := by decide +kernel
theorem dX9_end_16 : decode cX9_end 16 = .ok (.getfield 40, 3) := by decide +kernel
theorem dX9_end_19 : decode cX9_end 19 = .ok (.aload_n 0, 1) := by decide +kernel
theorem dX9_end_20 : decode cX9_end 20 = .ok (.getfield 10, 3) := by decide +kernel
theorem dX9_end_23 : decode cX9_end 23 = .ok (.aload_n 0, 1) := by decide +kernel
theorem dX9_end_24 : decode cX9_end 24 = .ok (.getfield 26, 3) := by decide +kernel
theorem dX9_end_27 : decode cX9_end 27 = .ok (.aload_n 0, 1) := by decide +kernel
theorem dX9_end_28 : decode cX9_end 28 = .ok (.getfield 56, 3) := by decide +kernel
theorem dX9_end_31 : decode cX9_end 31 = .ok (.iload_n 1, 1) := by decide +kernel
theorem dX9_end_32 : decode cX9_end 32 = .ok (.invokevirtual 310, 3) := by decide +kernel
theorem dX9_end_35 : decode cX9_end 35 = .ok (.ireturn, 1) := by decide +kernel
theorem dX9_write_0 : decode cX9_write 0 = .ok (.aload_n 0, 1) := by decide +kernel
theorem dX9_write_1 : decode cX9_write 1 = .ok (.getfield 60, 3) := by decide +kernel
theorem dX9_write_4 : decode cX9_write 4 = .ok (.iload_n 1, 1) := by decide +kernel
theorem dX9_write_5 : decode cX9_write 5 = .ok (.invokestatic 302, 3) := by decide +kernel
theorem dX9_write_8 : decode cX9_write 8 = .ok (.ireturn, 1) := by decide +kernel
theorem dX9_judge_0 : decode cX9_judge 0 = .ok (.aload_n 0, 1) := by decide +kernel
theorem dX9_judge_1 : decode cX9_judge 1 = .ok (.getfield 26, 3) := by decide +kernel
theorem dX9_judge_4 : decode cX9_judge 4 = .ok (.invokevirtual 221, 3) := by decide +kernel
theorem dX9_judge_7 : decode cX9_judge 7 = .ok (.ifCond .eq 25, 3) := by decide +kernel
theorem dX9_judge_10 : decode cX9_judge 10 = .ok (.aload_n 0, 1) := by decide +kernel
theorem dX9_judge_11 : decode cX9_judge 11 = .ok (.getfield 40, 3) := by decide +kernel
theorem dX9_judge_14 : decode cX9_judge 14 = .ok (.aload_n 0, 1) := by decide +kernel
theorem dX9_judge_15 : decode cX9_judge 15 = .ok (.getfield 10, 3) := by decide +kernel
theorem dX9_judge_18 : decode cX9_judge 18 = .ok (.aload_n 0, 1) := by decide +kernel
theorem dX9_judge_19 : decode cX9_judge 19 = .ok (.getfield 26, 3) := by decide +kernel
theorem dX9_judge_22 : decode cX9_judge 22 = .ok (.aload_n 0, 1) := by decide +kernel
theorem dX9_judge_23 : decode cX9_judge 23 = .ok (.getfield 60, 3) := by decide +kernel
theorem dX9_judge_26 : decode cX9_judge 26 = .ok (.invokevirtual 314, 3) := by decide +kernel
theorem dX9_judge_29 : decode cX9_judge 29 = .ok (.goto 5, 3) := by decide +kernel
theorem dX9_judge_32 : decode cX9_judge 32 = .ok (.ldc 225, 2) := by decide +kernel
theorem dX9_judge_34 : decode cX9_judge 34 = .ok (.ireturn, 1) := by decide +kernel
theorem dX9_tear_0 : decode cX9_tear 0 = .ok (.aload_n 0, 1) := by decide +kernel
theorem dX9_tear_1 : decode cX9_tear 1 = .ok (.getfield 56, 3) := by decide +kernel
theorem dX9_tear_4 : decode cX9_tear 4 = .ok (.getfield 81, 3) := by decide +kernel
theorem dX9_tear_7 : decode cX9_tear 7 = .ok (.aload_n 0, 1) := by decide +kernel
theorem dX9_tear_8 : decode cX9_tear 8 = .ok (.getfield 60, 3) := by decide +kernel
theorem dX9_tear_11 : decode cX9_tear 11 = .ok (.getfield 81, 3) := by decide +kernel
theorem dX9_tear_14 : decode cX9_tear 14 = .ok (.iadd, 1) := by decide +kernel
theorem dX9_tear_15 : decode cX9_tear 15 = .ok (.istore_n 1, 1) := by decide +kernel
theorem dX9_tear_16 : decode cX9_tear 16 = .ok (.aload_n 0, 1) := by decide +kernel
theorem dX9_tear_17 : decode cX9_tear 17 = .ok (.getfield 56, 3) := by decide +kernel
theorem dX9_tear_20 : decode cX9_tear 20 = .ok (.invokevirtual 102, 3) := by decide +kernel
theorem dX9_tear_23 : decode cX9_tear 23 = .ok (.aload_n 0, 1) := by decide +kernel
theorem dX9_tear_24 : decode cX9_tear 24 = .ok (.getfield 60, 3) := by decide +kernel
theorem dX9_tear_27 : decode cX9_tear 27 = .ok (.invokevirtual 102, 3) := by decide +kernel
theorem dX9_tear_30 : decode cX9_tear 30 = .ok (.iload_n 1, 1) := by decide +kernel
theorem dX9_tear_31 : decode cX9_tear 31 = .ok (.ireturn, 1) := by decide +kernel
theorem dX9_seed_0 : decode cX9_seed 0 = .ok (.iload_n 1, 1) := by decide +kernel
theorem dX9_seed_1 : decode cX9_seed 1 = .ok (.ifCond .ge 6, 3) := by decide +kernel
theorem dX9_seed_4 : decode cX9_seed 4 = .ok (.ldc 73, 2) := by decide +kernel
theorem dX9_seed_6 : decode cX9_seed 6 = .ok (.ireturn, 1) := by decide +kernel
theorem dX9_seed_7 : decode cX9_seed 7 = .ok (.aload_n 0, 1) := by decide +kernel
theorem dX9_seed_8 : decode cX9_seed 8 = .ok (.getfield 318, 3) := by decide +kernel
theorem dX9_seed_11 : decode cX9_seed 11 = .ok (.istore_n 2, 1) := by decide +kernel
theorem dX9_seed_12 : decode cX9_seed 12 = .ok (.aload_n 0, 1) := by decide +kernel
theorem dX9_seed_13 : decode cX9_seed 13 = .ok (.iload_n 1, 1) := by decide +kernel
theorem dX9_seed_14 : decode cX9_seed 14 = .ok (.putfield 318, 3) := by decide +kernel
theorem dX9_seed_17 : decode cX9_seed 17 = .ok (.iload_n 2, 1) := by decide +kernel
theorem dX9_seed_18 : decode cX9_seed 18 = .ok (.ireturn, 1) := by decide +kernel
theorem dX9_keep_0 : decode cX9_keep 0 = .ok (.iload_n 1, 1) := by decide +kernel
theorem dX9_keep_1 : decode cX9_keep 1 = .ok (.iconst 0, 1) := by decide +kernel
theorem dX9_keep_2 : decode cX9_keep 2 = .ok (.iconst 1, 1) := by decide +kernel
theorem dX9_keep_3 : decode cX9_keep 3 = .ok (.invokestatic 229, 3) := by decide +kernel
theorem dX9_keep_6 : decode cX9_keep 6 = .ok (.ifCond .ne 6, 3) := by decide +kernel
theorem dX9_keep_9 : decode cX9_keep 9 = .ok (.ldc 160, 2) := by decide +kernel
theorem dX9_keep_11 : decode cX9_keep 11 = .ok (.ireturn, 1) := by decide +kernel
theorem dX9_keep_12 : decode cX9_keep 12 = .ok (.iload_n 1, 1) := by decide +kernel
theorem dX9_keep_13 : decode cX9_keep 13 = .ok (.ifCond .ne 10, 3) := by decide +kernel
theorem dX9_keep_16 : decode cX9_keep 16 = .ok (.aload_n 0, 1) := by decide +kernel
theorem dX9_keep_17 : decode cX9_keep 17 = .ok (.getfield 66, 3) := by decide +kernel
theorem dX9_keep_20 : decode cX9_keep 20 = .ok (.goto 7, 3) := by decide +kernel
theorem dX9_keep_23 : decode cX9_keep 23 = .ok (.aload_n 0, 1) := by decide +kernel
theorem dX9_keep_24 : decode cX9_keep 24 = .ok (.getfield 70, 3) := by decide +kernel
theorem dX9_keep_27 : decode cX9_keep 27 = .ok (.astore_n 2, 1) := by decide +kernel
theorem dX9_keep_28 : decode cX9_keep 28 = .ok (.aload_n 2, 1) := by decide +kernel
theorem dX9_keep_29 : decode cX9_keep 29 = .ok (.getfield 321, 3) := by decide +kernel
theorem dX9_keep_32 : decode cX9_keep 32 = .ok (.aload_n 0, 1) := by decide +kernel
theorem dX9_keep_33 : decode cX9_keep 33 = .ok (.getfield 26, 3) := by decide +kernel
theorem dX9_keep_36 : decode cX9_keep 36 = .ok (.invokevirtual 324, 3) := by decide +kernel
theorem dX9_keep_39 : decode cX9_keep 39 = .ok (.aload_n 2, 1) := by decide +kernel
theorem dX9_keep_40 : decode cX9_keep 40 = .ok (.aload_n 0, 1) := by decide +kernel
theorem dX9_keep_41 : decode cX9_keep 41 = .ok (.getfield 318, 3) := by decide +kernel
theorem dX9_keep_44 : decode cX9_keep 44 = .ok (.putfield 326, 3) := by decide +kernel
theorem dX9_keep_47 : decode cX9_keep 47 = .ok (.aload_n 2, 1) := by decide +kernel
theorem dX9_keep_48 : decode cX9_keep 48 = .ok (.iconst 1, 1) := by decide +kernel
theorem dX9_keep_49 : decode cX9_keep 49 = .ok (.putfield 106, 3) := by decide +kernel
theorem dX9_keep_52 : decode cX9_keep 52 = .ok (.aload_n 0, 1) := by decide +kernel
theorem dX9_keep_53 : decode cX9_keep 53 = .ok (.getfield 33, 3) := by decide +kernel
theorem dX9_keep_56 : decode cX9_keep 56 = .ok (.invokevirtual 105, 3) := by decide +kernel
theorem dX9_keep_59 : decode cX9_keep 59 = .ok (.iconst 1, 1) := by decide +kernel
theorem dX9_keep_60 : decode cX9_keep 60 = .ok (.ireturn, 1) := by decide +kernel
theorem dX9_goBack_0 : decode cX9_goBack 0 = .ok (.iload_n 1, 1) := by decide +kernel
theorem dX9_goBack_1 : decode cX9_goBack 1 = .ok (.iconst 0, 1) := by decide +kernel
theorem dX9_goBack_2 : decode cX9_goBack 2 = .ok (.iconst 1, 1) := by decide +kernel
theorem dX9_goBack_3 : decode cX9_goBack 3 = .ok (.invokestatic 229, 3) := by decide +kernel
theorem dX9_goBack_6 : decode cX9_goBack 6 = .ok (.ifCond .ne 6, 3) := by decide +kernel
theorem dX9_goBack_9 : decode cX9_goBack 9 = .ok (.ldc 160, 2) := by decide +kernel
theorem dX9_goBack_11 : decode cX9_goBack 11 = .ok (.ireturn, 1) := by decide +kernel
theorem dX9_goBack_12 : decode cX9_goBack 12 = .ok (.iload_n 1, 1) := by decide +kernel
theorem dX9_goBack_13 : decode cX9_goBack 13 = .ok (.ifCond .ne 10, 3) := by decide +kernel
theorem dX9_goBack_16 : decode cX9_goBack 16 = .ok (.aload_n 0, 1) := by decide +kernel
theorem dX9_goBack_17 : decode cX9_goBack 17 = .ok (.getfield 66, 3) := by decide +kernel
theorem dX9_goBack_20 : decode cX9_goBack 20 = .ok (.goto 7, 3) := by decide +kernel
theorem dX9_goBack_23 : decode cX9_goBack 23 = .ok (.aload_n 0, 1) := by decide +kernel
theorem dX9_goBack_24 : decode cX9_goBack 24 = .ok (.getfield 70, 3) := by decide +kernel
theorem dX9_goBack_27 : decode cX9_goBack 27 = .ok (.astore_n 2, 1) := by decide +kernel
theorem dX9_goBack_28 : decode cX9_goBack 28 = .ok (.aload_n 2, 1) := by decide +kernel
theorem dX9_goBack_29 : decode cX9_goBack 29 = .ok (.getfield 106, 3) := by decide +kernel
theorem dX9_goBack_32 : decode cX9_goBack 32 = .ok (.ifCond .ne 6, 3) := by decide +kernel
theorem dX9_goBack_35 : decode cX9_goBack 35 = .ok (.ldc 225, 2) := by decide +kernel
theorem dX9_goBack_37 : decode cX9_goBack 37 = .ok (.ireturn, 1) := by decide +kernel
theorem dX9_goBack_38 : decode cX9_goBack 38 = .ok (.aload_n 0, 1) := by decide +kernel
theorem dX9_goBack_39 : decode cX9_goBack 39 = .ok (.getfield 26, 3) := by decide +kernel
theorem dX9_goBack_42 : decode cX9_goBack 42 = .ok (.aload_n 2, 1) := by decide +kernel
theorem dX9_goBack_43 : decode cX9_goBack 43 = .ok (.getfield 321, 3) := by decide +kernel
theorem dX9_goBack_46 : decode cX9_goBack 46 = .ok (.invokevirtual 324, 3) := by decide +kernel
theorem dX9_goBack_49 : decode cX9_goBack 49 = .ok (.aload_n 0, 1) := by decide +kernel
theorem dX9_goBack_50 : decode cX9_goBack 50 = .ok (.aload_n 2, 1) := by decide +kernel
theorem dX9_goBack_51 : decode cX9_goBack 51 = .ok (.getfield 326, 3) := by decide +kernel
theorem dX9_goBack_54 : decode cX9_goBack 54 = .ok (.putfield 318, 3) := by decide +kernel
theorem dX9_goBack_57 : decode cX9_goBack 57 = .ok (.aload_n 0, 1) := by decide +kernel
theorem dX9_goBack_58 : decode cX9_goBack 58 = .ok (.getfield 33, 3) := by decide +kernel
theorem dX9_goBack_61 : decode cX9_goBack 61 = .ok (.invokevirtual 105, 3) := by decide +kernel
theorem dX9_goBack_64 : decode cX9_goBack 64 = .ok (.iconst 1, 1) := by decide +kernel
theorem dX9_goBack_65 : decode cX9_goBack 65 = .ok (.ireturn, 1) := by decide +kernel
theorem dX9_isWithin_0 : decode cX9_isWithin 0 = .ok (.iload_n 0, 1) := by decide +kernel
theorem dX9_isWithin_1 : decode cX9_isWithin 1 = .ok (.iload_n 1, 1) := by decide +kernel
theorem dX9_isWithin_2 : decode cX9_isWithin 2 = .ok (.if_icmp .lt 12, 3) := by decide +kernel
theorem dX9_isWithin_5 : decode cX9_isWithin 5 = .ok (.iload_n 0, 1) := by decide +kernel
theorem dX9_isWithin_6 : decode cX9_isWithin 6 = .ok (.iload_n 2, 1) := by decide +kernel
theorem dX9_isWithin_7 : decode cX9_isWithin 7 = .ok (.if_icmp .gt 7, 3) := by decide +kernel
theorem dX9_isWithin_10 : decode cX9_isWithin 10 = .ok (.iconst 1, 1) := by decide +kernel
theorem dX9_isWithin_11 : decode cX9_isWithin 11 = .ok (.goto 4, 3) := by decide +kernel
theorem dX9_isWithin_14 : decode cX9_isWithin 14 = .ok (.iconst 0, 1) := by decide +kernel
theorem dX9_isWithin_15 : decode cX9_isWithin 15 = .ok (.ireturn, 1) := by decide +kernel
theorem dX9_noneIfNever_0 : decode cX9_noneIfNever 0 = .ok (.iload_n 0, 1) := by decide +kernel
theorem dX9_noneIfNever_1 : decode cX9_noneIfNever 1 = .ok (.sipush 1000, 3) := by decide +kernel
theorem dX9_noneIfNever_4 : decode cX9_noneIfNever 4 = .ok (.if_icmp .ne 7, 3) := by decide +kernel
theorem dX9_noneIfNever_7 : decode cX9_noneIfNever 7 = .ok (.iconst (-1), 1) := by decide +kernel
theorem dX9_noneIfNever_8 : decode cX9_noneIfNever 8 = .ok (.goto 4, 3) := by decide +kernel
theorem dX9_noneIfNever_11 : decode cX9_noneIfNever 11 = .ok (.iload_n 0, 1) := by decide +kernel
theorem dX9_noneIfNever_12 : decode cX9_noneIfNever 12 = .ok (.ireturn, 1) := by decide +kernel
theorem dX9_refusalOfTwo_0 : decode cX9_refusalOfTwo 0 = .ok (.aload_n 0, 1) := by decide +kernel
theorem dX9_refusalOfTwo_1 : decode cX9_refusalOfTwo 1 = .ok (.getfield 10, 3) := by decide +kernel
theorem dX9_refusalOfTwo_4 : decode cX9_refusalOfTwo 4 = .ok (.iload_n 1, 1) := by decide +kernel
theorem dX9_refusalOfTwo_5 : decode cX9_refusalOfTwo 5 = .ok (.iload_n 2, 1) := by decide +kernel
theorem dX9_refusalOfTwo_6 : decode cX9_refusalOfTwo 6 = .ok (.invokevirtual 255, 3) := by decide +kernel
theorem dX9_refusalOfTwo_9 : decode cX9_refusalOfTwo 9 = .ok (.ifCond .ne 8, 3) := by decide +kernel
theorem dX9_refusalOfTwo_12 : decode cX9_refusalOfTwo 12 = .ok (.ldc 160, 2) := by decide +kernel
theorem dX9_refusalOfTwo_14 : decode cX9_refusalOfTwo 14 = .ok (.goto 19, 3) := by decide +kernel
theorem dX9_refusalOfTwo_17 : decode cX9_refusalOfTwo 17 = .ok (.aload_n 0, 1) := by decide +kernel
theorem dX9_refusalOfTwo_18 : decode cX9_refusalOfTwo 18 = .ok (.getfield 10, 3) := by decide +kernel
theorem dX9_refusalOfTwo_21 : decode cX9_refusalOfTwo 21 = .ok (.getfield 110, 3) := by decide +kernel
theorem dX9_refusalOfTwo_24 : decode cX9_refusalOfTwo 24 = .ok (.ifCond .ne 8, 3) := by decide +kernel
theorem dX9_refusalOfTwo_27 : decode cX9_refusalOfTwo 27 = .ok (.ldc 225, 2) := by decide +kernel
theorem dX9_refusalOfTwo_29 : decode cX9_refusalOfTwo 29 = .ok (.goto 4, 3) := by decide +kernel
theorem dX9_refusalOfTwo_32 : decode cX9_refusalOfTwo 32 = .ok (.iconst 0, 1) := by decide +kernel
theorem dX9_refusalOfTwo_33 : decode cX9_refusalOfTwo 33 = .ok (.ireturn, 1) := by decide +kernel
theorem dX9_refusalOfSawing_0 : decode cX9_refusalOfSawing 0 = .ok (.iload_n 1, 1) := by decide +kernel
theorem dX9_refusalOfSawing_1 : decode cX9_refusalOfSawing 1 = .ok (.iconst 1, 1) := by decide +kernel
theorem dX9_refusalOfSawing_2 : decode cX9_refusalOfSawing 2 = .ok (.bipush 99, 2) := by decide +kernel
theorem dX9_refusalOfSawing_4 : decode cX9_refusalOfSawing 4 = .ok (.invokestatic 229, 3) := by decide +kernel
theorem dX9_refusalOfSawing_7 : decode cX9_refusalOfSawing 7 = .ok (.ifCond .ne 8, 3) := by decide +kernel
theorem dX9_refusalOfSawing_10 : decode cX9_refusalOfSawing 10 = .ok (.ldc 73, 2) := by decide +kernel
theorem dX9_refusalOfSawing_12 : decode cX9_refusalOfSawing 12 = .ok (.goto 33, 3) := by decide +kernel
theorem dX9_refusalOfSawing_15 : decode cX9_refusalOfSawing 15 = .ok (.aload_n 0, 1) := by decide +kernel
theorem dX9_refusalOfSawing_16 : decode cX9_refusalOfSawing 16 = .ok (.getfield 26, 3) := by decide +kernel
theorem dX9_refusalOfSawing_19 : decode cX9_refusalOfSawing 19 = .ok (.invokevirtual 221, 3) := by decide +kernel
theorem dX9_refusalOfSawing_22 : decode cX9_refusalOfSawing 22 = .ok (.ifCond .eq 17, 3) := by decide +kernel
theorem dX9_refusalOfSawing_25 : decode cX9_refusalOfSawing 25 = .ok (.aload_n 0, 1) := by decide +kernel
theorem dX9_refusalOfSawing_26 : decode cX9_refusalOfSawing 26 = .ok (.getfield 26, 3) := by decide +kernel
theorem dX9_refusalOfSawing_29 : decode cX9_refusalOfSawing 29 = .ok (.aload_n 0, 1) := by decide +kernel
theorem dX9_refusalOfSawing_30 : decode cX9_refusalOfSawing 30 = .ok (.getfield 10, 3) := by decide +kernel
theorem dX9_refusalOfSawing_33 : decode cX9_refusalOfSawing 33 = .ok (.invokevirtual 155, 3) := by decide +kernel
theorem dX9_refusalOfSawing_36 : decode cX9_refusalOfSawing 36 = .ok (.ifCond .eq 8, 3) := by decide +kernel
theorem dX9_refusalOfSawing_39 : decode cX9_refusalOfSawing 39 = .ok (.ldc 225, 2) := by decide +kernel
theorem dX9_refusalOfSawing_41 : decode cX9_refusalOfSawing 41 = .ok (.goto 4, 3) := by decide +kernel
theorem dX9_refusalOfSawing_44 : decode cX9_refusalOfSawing 44 = .ok (.iconst 0, 1) := by decide +kernel
theorem dX9_refusalOfSawing_45 : decode cX9_refusalOfSawing 45 = .ok (.ireturn, 1) := by decide +kernel
theorem dX9_changeRow_0 : decode cX9_changeRow 0 = .ok (.aload_n 1, 1) := by decide +kernel
theorem dX9_changeRow_1 : decode cX9_changeRow 1 = .ok (.iload_n 2, 1) := by decide +kernel
theorem dX9_changeRow_2 : decode cX9_changeRow 2 = .ok (.invokestatic 165, 3) := by decide +kernel
theorem dX9_changeRow_5 : decode cX9_changeRow 5 = .ok (.istore 4, 2) := by decide +kernel
theorem dX9_changeRow_7 : decode cX9_changeRow 7 = .ok (.iload 4, 2) := by decide +kernel
theorem dX9_changeRow_9 : decode cX9_changeRow 9 = .ok (.iload_n 3, 1) := by decide +kernel
theorem dX9_changeRow_10 : decode cX9_changeRow 10 = .ok (.if_icmp .eq 20, 3) := by decide +kernel
theorem dX9_changeRow_13 : decode cX9_changeRow 13 = .ok (.aload_n 0, 1) := by decide +kernel
theorem dX9_changeRow_14 : decode cX9_changeRow 14 = .ok (.getfield 33, 3) := by decide +kernel
theorem dX9_changeRow_17 : decode cX9_changeRow 17 = .ok (.aload_n 0, 1) := by decide +kernel
theorem dX9_changeRow_18 : decode cX9_changeRow 18 = .ok (.getfield 26, 3) := by decide +kernel
theorem dX9_changeRow_21 : decode cX9_changeRow 21 = .ok (.invokevirtual 210, 3) := by decide +kernel
theorem dX9_changeRow_24 : decode cX9_changeRow 24 = .ok (.aload_n 1, 1) := by decide +kernel
theorem dX9_changeRow_25 : decode cX9_changeRow 25 = .ok (.iload_n 2, 1) := by decide +kernel
theorem dX9_changeRow_26 : decode cX9_changeRow 26 = .ok (.iload_n 3, 1) := by decide +kernel
theorem dX9_changeRow_27 : decode cX9_changeRow 27 = .ok (.invokestatic 327, 3) := by decide +kernel
theorem dX9_changeRow_30 : decode cX9_changeRow 30 = .ok (.iload 4, 2) := by decide +kernel
theorem dX9_changeRow_32 : decode cX9_changeRow 32 = .ok (.ireturn, 1) := by decide +kernel
theorem dX9_addCut_0 : decode cX9_addCut 0 = .ok (.iload_n 1, 1) := by decide +kernel
theorem dX9_addCut_1 : decode cX9_addCut 1 = .ok (.iconst 0, 1) := by decide +kernel
theorem dX9_addCut_2 : decode cX9_addCut 2 = .ok (.sipush 999, 3) := by decide +kernel
theorem dX9_addCut_5 : decode cX9_addCut 5 = .ok (.invokestatic 229, 3) := by decide +kernel
theorem dX9_addCut_8 : decode cX9_addCut 8 = .ok (.ifCond .ne 6, 3) := by decide +kernel
theorem dX9_addCut_11 : decode cX9_addCut 11 = .ok (.ldc 73, 2) := by decide +kernel
theorem dX9_addCut_13 : decode cX9_addCut 13 = .ok (.ireturn, 1) := by decide +kernel
theorem dX9_addCut_14 : decode cX9_addCut 14 = .ok (.aload_n 0, 1) := by decide +kernel
theorem dX9_addCut_15 : decode cX9_addCut 15 = .ok (.iload_n 1, 1) := by decide +kernel
theorem dX9_addCut_16 : decode cX9_addCut 16 = .ok (.invokevirtual 77, 3) := by decide +kernel
theorem dX9_addCut_19 : decode cX9_addCut 19 = .ok (.ifCond .eq 10, 3) := by decide +kernel
theorem dX9_addCut_22 : decode cX9_addCut 22 = .ok (.aload_n 0, 1) := by decide +kernel
theorem dX9_addCut_23 : decode cX9_addCut 23 = .ok (.getfield 81, 3) := by decide +kernel
theorem dX9_addCut_26 : decode cX9_addCut 26 = .ok (.goto 5, 3) := by decide +kernel
theorem dX9_addCut_29 : decode cX9_addCut 29 = .ok (.ldc 85, 2) := by decide +kernel
theorem dX9_addCut_31 : decode cX9_addCut 31 = .ok (.ireturn, 1) := by decide +kernel
theorem dX9_driftOnce_0 : decode cX9_driftOnce 0 = .ok (.aload_n 0, 1) := by decide +kernel
theorem dX9_driftOnce_1 : decode cX9_driftOnce 1 = .ok (.invokevirtual 331, 3) := by decide +kernel
theorem dX9_driftOnce_4 : decode cX9_driftOnce 4 = .ok (.lookupswitch 50 #[(0, 28), (1, 39)], 28) := by decide +kernel
theorem dX9_driftOnce_32 : decode cX9_driftOnce 32 = .ok (.aload_n 0, 1) := by decide +kernel
theorem dX9_driftOnce_33 : decode cX9_driftOnce 33 = .ok (.getfield 26, 3) := by decide +kernel
theorem dX9_driftOnce_36 : decode cX9_driftOnce 36 = .ok (.iconst 1, 1) := by decide +kernel
theorem dX9_driftOnce_37 : decode cX9_driftOnce 37 = .ok (.invokevirtual 218, 3) := by decide +kernel
theorem dX9_driftOnce_40 : decode cX9_driftOnce 40 = .ok (.goto 26, 3) := by decide +kernel
theorem dX9_driftOnce_43 : decode cX9_driftOnce 43 = .ok (.aload_n 0, 1) := by decide +kernel
theorem dX9_driftOnce_44 : decode cX9_driftOnce 44 = .ok (.getfield 26, 3) := by decide +kernel
theorem dX9_driftOnce_47 : decode cX9_driftOnce 47 = .ok (.iconst 0, 1) := by decide +kernel
theorem dX9_driftOnce_48 : decode cX9_driftOnce 48 = .ok (.putfield 137, 3) := by decide +kernel
theorem dX9_driftOnce_51 : decode cX9_driftOnce 51 = .ok (.goto 15, 3) := by decide +kernel
theorem dX9_driftOnce_54 : decode cX9_driftOnce 54 = .ok (.aload_n 0, 1) := by decide +kernel
theorem dX9_driftOnce_55 : decode cX9_driftOnce 55 = .ok (.getfield 26, 3) := by decide +kernel
theorem dX9_driftOnce_58 : decode cX9_driftOnce 58 = .ok (.aload_n 0, 1) := by decide +kernel
theorem dX9_driftOnce_59 : decode cX9_driftOnce 59 = .ok (.getfield 10, 3) := by decide +kernel
theorem dX9_driftOnce_62 : decode cX9_driftOnce 62 = .ok (.invokevirtual 214, 3) := by decide +kernel
theorem dX9_driftOnce_65 : decode cX9_driftOnce 65 = .ok (.pop, 1) := by decide +kernel
theorem dX9_driftOnce_66 : decode cX9_driftOnce 66 = .ok (.return_, 1) := by decide +kernel
theorem dX9_drawEighth_0 : decode cX9_drawEighth 0 = .ok (.aload_n 0, 1) := by decide +kernel
theorem dX9_drawEighth_1 : decode cX9_drawEighth 1 = .ok (.aload_n 0, 1) := by decide +kernel
theorem dX9_drawEighth_2 : decode cX9_drawEighth 2 = .ok (.getfield 318, 3) := by decide +kernel
theorem dX9_drawEighth_5 : decode cX9_drawEighth 5 = .ok (.ldc_w 335, 3) := by decide +kernel
theorem dX9_drawEighth_8 : decode cX9_drawEighth 8 = .ok (.imul, 1) := by decide +kernel
theorem dX9_drawEighth_9 : decode cX9_drawEighth 9 = .ok (.sipush 12345, 3) := by decide +kernel
theorem dX9_drawEighth_12 : decode cX9_drawEighth 12 = .ok (.iadd, 1) := by decide +kernel
theorem dX9_drawEighth_13 : decode cX9_drawEighth 13 = .ok (.ldc_w 336, 3) := by decide +kernel
theorem dX9_drawEighth_16 : decode cX9_drawEighth 16 = .ok (.iand, 1) := by decide +kernel
theorem dX9_drawEighth_17 : decode cX9_drawEighth 17 = .ok (.putfield 318, 3) := by decide +kernel
theorem dX9_drawEighth_20 : decode cX9_drawEighth 20 = .ok (.aload_n 0, 1) := by decide +kernel
theorem dX9_drawEighth_21 : decode cX9_drawEighth 21 = .ok (.getfield 318, 3) := by decide +kernel
theorem dX9_drawEighth_24 : decode cX9_drawEighth 24 = .ok (.ldc_w 337, 3) := by decide +kernel
theorem dX9_drawEighth_27 : decode cX9_drawEighth 27 = .ok (.idiv, 1) := by decide +kernel
theorem dX9_drawEighth_28 : decode cX9_drawEighth 28 = .ok (.bipush 8, 2) := by decide +kernel
theorem dX9_drawEighth_30 : decode cX9_drawEighth 30 = .ok (.irem, 1) := by decide +kernel
theorem dX9_drawEighth_31 : decode cX9_drawEighth 31 = .ok (.ireturn, 1) := by decide +kernel
theorem dX10_init_0 : decode cX10_init 0 = .ok (.aload_n 0, 1) := by decide +kernel
theorem dX10_init_1 : decode cX10_init 1 = .ok (.invokespecial 1, 3) := by decide +kernel
theorem dX10_init_4 : decode cX10_init 4 = .ok (.aload_n 0, 1) := by decide +kernel
theorem dX10_init_5 : decode cX10_init 5 = .ok (.sipush 952, 3) := by decide +kernel
theorem dX10_init_8 : decode cX10_init 8 = .ok (.newarray .int, 2) := by decide +kernel
theorem dX10_init_10 : decode cX10_init 10 = .ok (.putfield 7, 3) := by decide +kernel
theorem dX10_init_13 : decode cX10_init 13 = .ok (.aload_n 0, 1) := by decide +kernel
theorem dX10_init_14 : decode cX10_init 14 = .ok (.iconst 2, 1) := by decide +kernel
theorem dX10_init_15 : decode cX10_init 15 = .ok (.newarray .boolean, 2) := by decide +kernel
theorem dX10_init_17 : decode cX10_init 17 = .ok (.putfield 13, 3) := by decide +kernel
theorem dX10_init_20 : decode cX10_init 20 = .ok (.aload_n 0, 1) := by decide +kernel
theorem dX10_init_21 : decode cX10_init 21 = .ok (.bipush 24, 2) := by decide +kernel
theorem dX10_init_23 : decode cX10_init 23 = .ok (.newarray .int, 2) := by decide +kernel
theorem dX10_init_25 : decode cX10_init 25 = .ok (.putfield 17, 3) := by decide +kernel
theorem dX10_init_28 : decode cX10_init 28 = .ok (.aload_n 0, 1) := by decide +kernel
theorem dX10_init_29 : decode cX10_init 29 = .ok (.bipush 8, 2) := by decide +kernel
theorem dX10_init_31 : decode cX10_init 31 = .ok (.newarray .int, 2) := by decide +kernel
theorem dX10_init_33 : decode cX10_init 33 = .ok (.putfield 20, 3) := by decide +kernel
theorem dX10_init_36 : decode cX10_init 36 = .ok (.aload_n 0, 1) := by decide +kernel
theorem dX10_init_37 : decode cX10_init 37 = .ok (.bipush 8, 2) := by decide +kernel
theorem dX10_init_39 : decode cX10_init 39 = .ok (.newarray .int, 2) := by decide +kernel
theorem dX10_init_41 : decode cX10_init 41 = .ok (.putfield 23, 3) := by decide +kernel
theorem dX10_init_44 : decode cX10_init 44 = .ok (.aload_n 0, 1) := by decide +kernel
theorem dX10_init_45 : decode cX10_init 45 = .ok (.bipush 8, 2) := by decide +kernel
theorem dX10_init_47 : decode cX10_init 47 = .ok (.newarray .int, 2) := by decide +kernel
theorem dX10_init_49 : decode cX10_init 49 = .ok (.putfield 26, 3) := by decide +kernel
theorem dX10_init_52 : decode cX10_init 52 = .ok (.aload_n 0, 1) := by decide +kernel
theorem dX10_init_53 : decode cX10_init 53 = .ok (.bipush 8, 2) := by decide +kernel
theorem dX10_init_55 : decode cX10_init 55 = .ok (.newarray .int, 2) := by decide +kernel
theorem dX10_init_57 : decode cX10_init 57 = .ok (.putfield 29, 3) := by decide +kernel
theorem dX10_init_60 : decode cX10_init 60 = .ok (.aload_n 0, 1) := by decide +kernel
theorem dX10_init_61 : decode cX10_init 61 = .ok (.bipush 8, 2) := by decide +kernel
theorem dX10_init_63 : decode cX10_init 63 = .ok (.newarray .int, 2) := by decide +kernel
theorem dX10_init_65 : decode cX10_init 65 = .ok (.putfield 32, 3) := by decide +kernel
theorem dX10_init_68 : decode cX10_init 68 = .ok (.aload_n 0, 1) := by decide +kernel
theorem dX10_init_69 : decode cX10_init 69 = .ok (.sipush 250, 3) := by decide +kernel
theorem dX10_init_72 : decode cX10_init 72 = .ok (.newarray .int, 2) := by decide +kernel
theorem dX10_init_74 : decode cX10_init 74 = .ok (.putfield 35, 3) := by decide +kernel
theorem dX10_init_77 : decode cX10_init 77 = .ok (.aload_n 0, 1) := by decide +kernel
theorem dX10_init_78 : decode cX10_init 78 = .ok (.iconst (-1), 1) := by decide +kernel
theorem dX10_init_79 : decode cX10_init 79 = .ok (.putfield 38, 3) := by decide +kernel
theorem dX10_init_82 : decode cX10_init 82 = .ok (.aload_n 0, 1) := by decide +kernel
theorem dX10_init_83 : decode cX10_init 83 = .ok (.sipush 1204, 3) := by decide +kernel
theorem dX10_init_86 : decode cX10_init 86 = .ok (.newarray .int, 2) := by decide +kernel
theorem dX10_init_88 : decode cX10_init 88 = .ok (.putfield 42, 3) := by decide +kernel
theorem dX10_init_91 : decode cX10_init 91 = .ok (.aload_n 0, 1) := by decide +kernel
theorem dX10_init_92 : decode cX10_init 92 = .ok (.sipush 1204, 3) := by decide +kernel
theorem dX10_init_95 : decode cX10_init 95 = .ok (.newarray .int, 2) := by decide +kernel
theorem dX10_init_97 : decode cX10_init 97 = .ok (.putfield 45, 3) := by decide +kernel
theorem dX10_init_100 : decode cX10_init 100 = .ok (.aload_n 0, 1) := by decide +kernel
theorem dX10_init_101 : decode cX10_init 101 = .ok (.sipush 1204, 3) := by decide +kernel
theorem dX10_init_104 : decode cX10_init 104 = .ok (.newarray .int, 2) := by decide +kernel
theorem dX10_init_106 : decode cX10_init 106 = .ok (.putfield 48, 3) := by decide +kernel
theorem dX10_init_109 : decode cX10_init 109 = .ok (.aload_n 0, 1) := by decide +kernel
theorem dX10_init_110 : decode cX10_init 110 = .ok (.sipush 1204, 3) := by decide +kernel
theorem dX10_init_113 : decode cX10_init 113 = .ok (.newarray .int, 2) := by decide +kernel
theorem dX10_init_115 : decode cX10_init 115 = .ok (.putfield 51, 3) := by decide +kernel
theorem dX10_init_118 : decode cX10_init 118 = .ok (.aload_n 0, 1) := by decide +kernel
theorem dX10_init_119 : decode cX10_init 119 = .ok (.bipush 8, 2) := by decide +kernel
theorem dX10_init_121 : decode cX10_init 121 = .ok (.newarray .int, 2) := by decide +kernel
theorem dX10_init_123 : decode cX10_init 123 = .ok (.putfield 54, 3) := by decide +kernel
theorem dX10_init_126 : decode cX10_init 126 = .ok (.aload_n 0, 1) := by decide +kernel
theorem dX10_init_127 : decode cX10_init 127 = .ok (.bipush 20, 2) := by decide +kernel
theorem dX10_init_129 : decode cX10_init 129 = .ok (.newarray .int, 2) := by decide +kernel
theorem dX10_init_131 : decode cX10_init 131 = .ok (.putfield 57, 3) := by decide +kernel
theorem dX10_init_134 : decode cX10_init 134 = .ok (.aload_n 0, 1) := by decide +kernel
theorem dX10_init_135 : decode cX10_init 135 = .ok (.iconst 2, 1) := by decide +kernel
theorem dX10_init_136 : decode cX10_init 136 = .ok (.putfield 60, 3) := by decide +kernel
theorem dX10_init_139 : decode cX10_init 139 = .ok (.aload_n 0, 1) := by decide +kernel
theorem dX10_init_140 : decode cX10_init 140 = .ok (.bipush 12, 2) := by decide +kernel
theorem dX10_init_142 : decode cX10_init 142 = .ok (.putfield 63, 3) := by decide +kernel
theorem dX10_init_145 : decode cX10_init 145 = .ok (.aload_n 0, 1) := by decide +kernel
theorem dX10_init_146 : decode cX10_init 146 = .ok (.getfield 7, 3) := by decide +kernel
theorem dX10_init_149 : decode cX10_init 149 = .ok (.bipush 16, 2) := by decide +kernel
theorem dX10_init_151 : decode cX10_init 151 = .ok (.iconst (-1), 1) := by decide +kernel
theorem dX10_init_152 : decode cX10_init 152 = .ok (.iastore, 1) := by decide +kernel
theorem dX10_init_153 : decode cX10_init 153 = .ok (.aload_n 0, 1) := by decide +kernel
theorem dX10_init_154 : decode cX10_init 154 = .ok (.getfield 7, 3) := by decide +kernel
theorem dX10_init_157 : decode cX10_init 157 = .ok (.bipush 17, 2) := by decide +kernel
theorem dX10_init_159 : decode cX10_init 159 = .ok (.iconst (-1), 1) := by decide +kernel
theorem dX10_init_160 : decode cX10_init 160 = .ok (.iastore, 1) := by decide +kernel
theorem dX10_init_161 : decode cX10_init 161 = .ok (.aload_n 0, 1) := by decide +kernel
theorem dX10_init_162 : decode cX10_init 162 = .ok (.getfield 7, 3) := by decide +kernel
theorem dX10_init_165 : decode cX10_init 165 = .ok (.bipush 18, 2) := by decide +kernel
theorem dX10_init_167 : decode cX10_init 167 = .ok (.iconst (-1), 1) := by decide +kernel
theorem dX10_init_168 : decode cX10_init 168 = .ok (.iastore, 1) := by decide +kernel
theorem dX10_init_169 : decode cX10_init 169 = .ok (.aload_n 0, 1) := by decide +kernel
theorem dX10_init_170 : decode cX10_init 170 = .ok (.getfield 7, 3) := by decide +kernel
theorem dX10_init_173 : decode cX10_init 173 = .ok (.bipush 24, 2) := by decide +kernel
theorem dX10_init_175 : decode cX10_init 175 = .ok (.iconst 5, 1) := by decide +kernel
theorem dX10_init_176 : decode cX10_init 176 = .ok (.iastore, 1) := by decide +kernel
theorem dX10_init_177 : decode cX10_init 177 = .ok (.return_, 1) := by decide +kernel
theorem dX10_in_0 : decode cX10_in 0 = .ok (.lload_n 0, 1) := by decide +kernel
theorem dX10_in_1 : decode cX10_in 1 = .ok (.lload_n 2, 1) := by decide +kernel
theorem dX10_in_2 : decode cX10_in 2 = .ok (.lcmp, 1) := by decide +kernel
theorem dX10_in_3 : decode cX10_in 3 = .ok (.ifCond .lt 14, 3) := by decide +kernel
theorem dX10_in_6 : decode cX10_in 6 = .ok (.lload_n 0, 1) := by decide +kernel
theorem dX10_in_7 : decode cX10_in 7 = .ok (.lload 4, 2) := by decide +kernel
theorem dX10_in_9 : decode cX10_in 9 = .ok (.lcmp, 1) := by decide +kernel
theorem dX10_in_10 : decode cX10_in 10 = .ok (.ifCond .gt 7, 3) := by decide +kernel
theorem dX10_in_13 : decode cX10_in 13 = .ok (.iconst 1, 1) := by decide +kernel
theorem dX10_in_14 : decode cX10_in 14 = .ok (.goto 4, 3) := by decide +kernel
theorem dX10_in_17 : decode cX10_in 17 = .ok (.iconst 0, 1) := by decide +kernel
theorem dX10_in_18 : decode cX10_in 18 = .ok (.ireturn, 1) := by decide +kernel
theorem dX10_one_0 : decode cX10_one 0 = .ok (.iload_n 0, 1) := by decide +kernel
theorem dX10_one_1 : decode cX10_one 1 = .ok (.ifCond .eq 7, 3) := by decide +kernel
theorem dX10_one_4 : decode cX10_one 4 = .ok (.iconst 1, 1) := by decide +kernel
theorem dX10_one_5 : decode cX10_one 5 = .ok (.goto 4, 3) := by decide +kernel
theorem dX10_one_8 : decode cX10_one 8 = .ok (.iconst 0, 1) := by decide +kernel
theorem dX10_one_9 : decode cX10_one 9 = .ok (.ireturn, 1) := by decide +kernel
theorem dX10_has_0 : decode cX10_has 0 = .ok (.iload_n 0, 1) := by decide +kernel
theorem dX10_has_1 : decode cX10_has 1 = .ok (.iload_n 1, 1) := by decide +kernel
theorem dX10_has_2 : decode cX10_has 2 = .ok (.ishr, 1) := by decide +kernel
theorem dX10_has_3 : decode cX10_has 3 = .ok (.iconst 1, 1) := by decide +kernel
theorem dX10_has_4 : decode cX10_has 4 = .ok (.iand, 1) := by decide +kernel
theorem dX10_has_5 : decode cX10_has 5 = .ok (.iconst 1, 1) := by decide +kernel
theorem dX10_has_6 : decode cX10_has 6 = .ok (.if_icmp .ne 7, 3) := by decide +kernel
theorem dX10_has_9 : decode cX10_has 9 = .ok (.iconst 1, 1) := by decide +kernel
theorem dX10_has_10 : decode cX10_has 10 = .ok (.goto 4, 3) := by decide +kernel
theorem dX10_has_13 : decode cX10_has 13 = .ok (.iconst 0, 1) := by decide +kernel
theorem dX10_has_14 : decode cX10_has 14 = .ok (.ireturn, 1) := by decide +kernel
theorem dX10_feed_0 : decode cX10_feed 0 = .ok (.iload_n 1, 1) := by decide +kernel
theorem dX10_feed_1 : decode cX10_feed 1 = .ok (.i2l, 1) := by decide +kernel
theorem dX10_feed_2 : decode cX10_feed 2 = .ok (.lconst 0, 1) := by decide +kernel
theorem dX10_feed_3 : decode cX10_feed 3 = .ok (.ldc2_w 66, 3) := by decide +kernel
theorem dX10_feed_6 : decode cX10_feed 6 = .ok (.invokestatic 68, 3) := by decide +kernel
theorem dX10_feed_9 : decode cX10_feed 9 = .ok (.ifCond .ne 6, 3) := by decide +kernel
theorem dX10_feed_12 : decode cX10_feed 12 = .ok (.ldc 72, 2) := by decide +kernel
theorem dX10_feed_14 : decode cX10_feed 14 = .ok (.ireturn, 1) := by decide +kernel
theorem dX10_feed_15 : decode cX10_feed 15 = .ok (.aload_n 0, 1) := by decide +kernel
theorem dX10_feed_16 : decode cX10_feed 16 = .ok (.getfield 73, 3) := by decide +kernel
theorem dX10_feed_19 : decode cX10_feed 19 = .ok (.sipush 250, 3) := by decide +kernel
theorem dX10_feed_22 : decode cX10_feed 22 = .ok (.if_icmp .ne 6, 3) := by decide +kernel
theorem dX10_feed_25 : decode cX10_feed 25 = .ok (.ldc 76, 2) := by decide +kernel
theorem dX10_feed_27 : decode cX10_feed 27 = .ok (.ireturn, 1) := by decide +kernel
theorem dX10_feed_28 : decode cX10_feed 28 = .ok (.aload_n 0, 1) := by decide +kernel
theorem dX10_feed_29 : decode cX10_feed 29 = .ok (.getfield 35, 3) := by decide +kernel
theorem dX10_feed_32 : decode cX10_feed 32 = .ok (.aload_n 0, 1) := by decide +kernel
theorem dX10_feed_33 : decode cX10_feed 33 = .ok (.getfield 73, 3) := by decide +kernel
theorem dX10_feed_36 : decode cX10_feed 36 = .ok (.iload_n 1, 1) := by decide +kernel
theorem dX10_feed_37 : decode cX10_feed 37 = .ok (.iastore, 1) := by decide +kernel
theorem dX10_feed_38 : decode cX10_feed 38 = .ok (.aload_n 0, 1) := by decide +kernel
theorem dX10_feed_39 : decode cX10_feed 39 = .ok (.dup, 1) := by decide +kernel
theorem dX10_feed_40 : decode cX10_feed 40 = .ok (.getfield 73, 3) := by decide +kernel
theorem dX10_feed_43 : decode cX10_feed 43 = .ok (.iconst 1, 1) := by decide +kernel
theorem dX10_feed_44 : decode cX10_feed 44 = .ok (.iadd, 1) := by decide +kernel
theorem dX10_feed_45 : decode cX10_feed 45 = .ok (.putfield 73, 3) := by decide +kernel
theorem dX10_feed_48 : decode cX10_feed 48 = .ok (.aload_n 0, 1) := by decide +kernel
theorem dX10_feed_49 : decode cX10_feed 49 = .ok (.getfield 73, 3) := by decide +kernel
theorem dX10_feed_52 : decode cX10_feed 52 = .ok (.ireturn, 1) := by decide +kernel
theorem dX10_here_0 : decode cX10_here 0 = .ok (.aload_n 0, 1) := by decide +kernel
theorem dX10_here_1 : decode cX10_here 1 = .ok (.getfield 77, 3) := by decide +kernel
theorem dX10_here_4 : decode cX10_here 4 = .ok (.aload_n 0, 1) := by decide +kernel
theorem dX10_here_5 : decode cX10_here 5 = .ok (.getfield 73, 3) := by decide +kernel
theorem dX10_here_8 : decode cX10_here 8 = .ok (.if_icmp .ge 30, 3) := by decide +kernel
theorem dX10_here_11 : decode cX10_here 11 = .ok (.aload_n 0, 1) := by decide +kernel
theorem dX10_here_12 : decode cX10_here 12 = .ok (.getfield 35, 3) := by decide +kernel
theorem dX10_here_15 : decode cX10_here 15 = .ok (.aload_n 0, 1) := by decide +kernel
theorem dX10_here_16 : decode cX10_here 16 = .ok (.getfield 77, 3) := by decide +kernel
theorem dX10_here_19 : decode cX10_here 19 = .ok (.iaload, 1) := by decide +kernel
theorem dX10_here_20 : decode cX10_here 20 = .ok (.bipush 32, 2) := by decide +kernel
theorem dX10_here_22 : decode cX10_here 22 = .ok (.if_icmp .ne 16, 3) := by decide +kernel
theorem dX10_here_25 : decode cX10_here 25 = .ok (.aload_n 0, 1) := by decide +kernel
theorem dX10_here_26 : decode cX10_here 26 = .ok (.dup, 1) := by decide +kernel
theorem dX10_here_27 : decode cX10_here 27 = .ok (.getfield 77, 3) := by decide +kernel
theorem dX10_here_30 : decode cX10_here 30 = .ok (.iconst 1, 1) := by decide +kernel
theorem dX10_here_31 : decode cX10_here 31 = .ok (.iadd, 1) := by decide +kernel
theorem dX10_here_32 : decode cX10_here 32 = .ok (.putfield 77, 3) := by decide +kernel
theorem dX10_here_35 : decode cX10_here 35 = .ok (.goto (-35), 3) := by decide +kernel
theorem dX10_here_38 : decode cX10_here 38 = .ok (.aload_n 0, 1) := by decide +kernel
theorem dX10_here_39 : decode cX10_here 39 = .ok (.getfield 77, 3) := by decide +kernel
theorem dX10_here_42 : decode cX10_here 42 = .ok (.aload_n 0, 1) := by decide +kernel
theorem dX10_here_43 : decode cX10_here 43 = .ok (.getfield 73, 3) := by decide +kernel
theorem dX10_here_46 : decode cX10_here 46 = .ok (.if_icmp .ge 15, 3) := by decide +kernel
theorem dX10_here_49 : decode cX10_here 49 = .ok (.aload_n 0, 1) := by decide +kernel
theorem dX10_here_50 : decode cX10_here 50 = .ok (.getfield 35, 3) := by decide +kernel
theorem dX10_here_53 : decode cX10_here 53 = .ok (.aload_n 0, 1) := by decide +kernel
theorem dX10_here_54 : decode cX10_here 54 = .ok (.getfield 77, 3) := by decide +kernel
theorem dX10_here_57 : decode cX10_here 57 = .ok (.iaload, 1) := by decide +kernel
theorem dX10_here_58 : decode cX10_here 58 = .ok (.goto 4, 3) := by decide +kernel
theorem dX10_here_61 : decode cX10_here 61 = .ok (.iconst (-1), 1) := by decide +kernel
theorem dX10_here_62 : decode cX10_here 62 = .ok (.ireturn, 1) := by decide +kernel
theorem dX10_want_0 : decode cX10_want 0 = .ok (.iload_n 1, 1) := by decide +kernel
theorem dX10_want_1 : decode cX10_want 1 = .ok (.ifCond .ne 20, 3) := by decide +kernel
theorem dX10_want_4 : decode cX10_want 4 = .ok (.aload_n 0, 1) := by decide +kernel
theorem dX10_want_5 : decode cX10_want 5 = .ok (.getfield 80, 3) := by decide +kernel
theorem dX10_want_8 : decode cX10_want 8 = .ok (.ifCond .ne 13, 3) := by decide +kernel
theorem dX10_want_11 : decode cX10_want 11 = .ok (.aload_n 0, 1) := by decide +kernel
theorem dX10_want_12 : decode cX10_want 12 = .ok (.iload_n 2, 1) := by decide +kernel
theorem dX10_want_13 : decode cX10_want 13 = .ok (.putfield 80, 3) := by decide +kernel
theorem dX10_want_16 : decode cX10_want 16 = .ok (.aload_n 0, 1) := by decide +kernel
theorem dX10_want_17 : decode cX10_want 17 = .ok (.iload_n 3, 1) := by decide +kernel
theorem dX10_want_18 : decode cX10_want 18 = .ok (.putfield 38, 3) := by decide +kernel
theorem dX10_want_21 : decode cX10_want 21 = .ok (.aload_n 0, 1) := by decide +kernel
theorem dX10_want_22 : decode cX10_want 22 = .ok (.getfield 80, 3) := by decide +kernel
theorem dX10_want_25 : decode cX10_want 25 = .ok (.ifCond .ne 7, 3) := by decide +kernel
theorem dX10_want_28 : decode cX10_want 28 = .ok (.iconst 1, 1) := by decide +kernel
theorem dX10_want_29 : decode cX10_want 29 = .ok (.goto 4, 3) := by decide +kernel
theorem dX10_want_32 : decode cX10_want 32 = .ok (.iconst 0, 1) := by decide +kernel
theorem dX10_want_33 : decode cX10_want 33 = .ok (.ireturn, 1) := by decide +kernel
theorem dX10_takeNumber_0 : decode cX10_takeNumber 0 = .ok (.aload_n 0, 1) := by decide +kernel
theorem dX10_takeNumber_1 : decode cX10_takeNumber 1 = .ok (.getfield 80, 3) := by decide +kernel
theorem dX10_takeNumber_4 : decode cX10_takeNumber 4 = .ok (.ifCond .le 5, 3) := by decide +kernel
theorem dX10_takeNumber_7 : decode cX10_takeNumber 7 = .ok (.iconst 0, 1) := by decide +kernel
theorem dX10_takeNumber_8 : decode cX10_takeNumber 8 = .ok (.ireturn, 1) := by decide +kernel
theorem dX10_takeNumber_9 : decode cX10_takeNumber 9 = .ok (.aload_n 0, 1) := by decide +kernel
theorem dX10_takeNumber_10 : decode cX10_takeNumber 10 = .ok (.invokevirtual 83, 3) := by decide +kernel
theorem dX10_takeNumber_13 : decode cX10_takeNumber 13 = .ok (.istore_n 3, 1) := by decide +kernel
theorem dX10_takeNumber_14 : decode cX10_takeNumber 14 = .ok (.aload_n 0, 1) := by decide +kernel
theorem dX10_takeNumber_15 : decode cX10_takeNumber 15 = .ok (.aload_n 0, 1) := by decide +kernel
theorem dX10_takeNumber_16 : decode cX10_takeNumber 16 = .ok (.getfield 77, 3) := by decide +kernel
theorem dX10_takeNumber_19 : decode cX10_takeNumber 19 = .ok (.putfield 87, 3) := by decide +kernel
theorem dX10_takeNumber_22 : decode cX10_takeNumber 22 = .ok (.aload_n 0, 1) := by decide +kernel
theorem dX10_takeNumber_23 : decode cX10_takeNumber 23 = .ok (.iload_n 3, 1) := by decide +kernel
theorem dX10_takeNumber_24 : decode cX10_takeNumber 24 = .ok (.i2l, 1) := by decide +kernel
theorem dX10_takeNumber_25 : decode cX10_takeNumber 25 = .ok (.ldc2_w 90, 3) := by decide +kernel
theorem dX10_takeNumber_28 : decode cX10_takeNumber 28 = .ok (.ldc2_w 92, 3) := by decide +kernel
theorem dX10_takeNumber_31 : decode cX10_takeNumber 31 = .ok (.invokestatic 68, 3) := by decide +kernel
theorem dX10_takeNumber_34 : decode cX10_takeNumber 34 = .ok (.iconst 1, 1) := by decide +kernel
theorem dX10_takeNumber_35 : decode cX10_takeNumber 35 = .ok (.aload_n 0, 1) := by decide +kernel
theorem dX10_takeNumber_36 : decode cX10_takeNumber 36 = .ok (.getfield 77, 3) := by decide +kernel
theorem dX10_takeNumber_39 : decode cX10_takeNumber 39 = .ok (.invokevirtual 94, 3) := by decide +kernel
theorem dX10_takeNumber_42 : decode cX10_takeNumber 42 = .ok (.ifCond .ne 5, 3) := by decide +kernel
theorem dX10_takeNumber_45 : decode cX10_takeNumber 45 = .ok (.iconst 0, 1) := by decide +kernel
theorem dX10_takeNumber_46 : decode cX10_takeNumber 46 = .ok (.ireturn, 1) := by decide +kernel
theorem dX10_takeNumber_47 : decode cX10_takeNumber 47 = .ok (.iconst 0, 1) := by decide +kernel
theorem dX10_takeNumber_48 : decode cX10_takeNumber 48 = .ok (.istore 4, 2) := by decide +kernel
theorem dX10_takeNumber_50 : decode cX10_takeNumber 50 = .ok (.aload_n 0, 1) := by decide +kernel
theorem dX10_takeNumber_51 : decode cX10_takeNumber 51 = .ok (.getfield 77, 3) := by decide +kernel
theorem dX10_takeNumber_54 : decode cX10_takeNumber 54 = .ok (.aload_n 0, 1) := by decide +kernel
theorem dX10_takeNumber_55 : decode cX10_takeNumber 55 = .ok (.getfield 73, 3) := by decide +kernel
theorem dX10_takeNumber_58 : decode cX10_takeNumber 58 = .ok (.if_icmp .ge 70, 3) := by decide +kernel
theorem dX10_takeNumber_61 : decode cX10_takeNumber 61 = .ok (.aload_n 0, 1) := by decide +kernel
theorem dX10_takeNumber_62 : decode cX10_takeNumber 62 = .ok (.getfield 35, 3) := by decide +kernel
theorem dX10_takeNumber_65 : decode cX10_takeNumber 65 = .ok (.aload_n 0, 1) := by decide +kernel
theorem dX10_takeNumber_66 : decode cX10_takeNumber 66 = .ok (.getfield 77, 3) := by decide +kernel
theorem dX10_takeNumber_69 : decode cX10_takeNumber 69 = .ok (.iaload, 1) := by decide +kernel
theorem dX10_takeNumber_70 : decode cX10_takeNumber 70 = .ok (.i2l, 1) := by decide +kernel
theorem dX10_takeNumber_71 : decode cX10_takeNumber 71 = .ok (.ldc2_w 90, 3) := by decide +kernel
theorem dX10_takeNumber_74 : decode cX10_takeNumber 74 = .ok (.ldc2_w 92, 3) := by decide +kernel
theorem dX10_takeNumber_77 : decode cX10_takeNumber 77 = .ok (.invokestatic 68, 3) := by decide +kernel
theorem dX10_takeNumber_80 : decode cX10_takeNumber 80 = .ok (.ifCond .eq 48, 3) := by decide +kernel
theorem dX10_takeNumber_83 : decode cX10_takeNumber 83 = .ok (.iload 4, 2) := by decide +kernel
theorem dX10_takeNumber_85 : decode cX10_takeNumber 85 = .ok (.ldc 98, 2) := by decide +kernel
theorem dX10_takeNumber_87 : decode cX10_takeNumber 87 = .ok (.if_icmp .le 8, 3) := by decide +kernel
theorem dX10_takeNumber_90 : decode cX10_takeNumber 90 = .ok (.iload 4, 2) := by decide +kernel
theorem dX10_takeNumber_92 : decode cX10_takeNumber 92 = .ok (.goto 21, 3) := by decide +kernel
theorem dX10_takeNumber_95 : decode cX10_takeNumber 95 = .ok (.bipush 10, 2) := by decide +kernel
theorem dX10_takeNumber_97 : decode cX10_takeNumber 97 = .ok (.iload 4, 2) := by decide +kernel
theorem dX10_takeNumber_99 : decode cX10_takeNumber 99 = .ok (.imul, 1) := by decide +kernel
theorem dX10_takeNumber_100 : decode cX10_takeNumber 100 = .ok (.aload_n 0, 1) := by decide +kernel
theorem dX10_takeNumber_101 : decode cX10_takeNumber 101 = .ok (.getfield 35, 3) := by decide +kernel
theorem dX10_takeNumber_104 : decode cX10_takeNumber 104 = .ok (.aload_n 0, 1) := by decide +kernel
theorem dX10_takeNumber_105 : decode cX10_takeNumber 105 = .ok (.getfield 77, 3) := by decide +kernel
theorem dX10_takeNumber_108 : decode cX10_takeNumber 108 = .ok (.iaload, 1) := by decide +kernel
theorem dX10_takeNumber_109 : decode cX10_takeNumber 109 = .ok (.iadd, 1) := by decide +kernel
theorem dX10_takeNumber_110 : decode cX10_takeNumber 110 = .ok (.bipush 48, 2) := by decide +kernel
theorem dX10_takeNumber_112 : decode cX10_takeNumber 112 = .ok (.isub, 1) := by decide +kernel
theorem dX10_takeNumber_113 : decode cX10_takeNumber 113 = .ok (.istore 4, 2) := by decide +kernel
theorem dX10_takeNumber_115 : decode cX10_takeNumber 115 = .ok (.aload_n 0, 1) := by decide +kernel
theorem dX10_takeNumber_116 : decode cX10_takeNumber 116 = .ok (.dup, 1) := by decide +kernel
theorem dX10_takeNumber_117 : decode cX10_takeNumber 117 = .ok (.getfield 77, 3) := by decide +kernel
theorem dX10_takeNumber_120 : decode cX10_takeNumber 120 = .ok (.iconst 1, 1) := by decide +kernel
theorem dX10_takeNumber_121 : decode cX10_takeNumber 121 = .ok (.iadd, 1) := by decide +kernel
theorem dX10_takeNumber_122 : decode cX10_takeNumber 122 = .ok (.putfield 77, 3) := by decide +kernel
theorem dX10_takeNumber_125 : decode cX10_takeNumber 125 = .ok (.goto (-75), 3) := by decide +kernel
theorem dX10_takeNumber_128 : decode cX10_takeNumber 128 = .ok (.aload_n 0, 1) := by decide +kernel
theorem dX10_takeNumber_129 : decode cX10_takeNumber 129 = .ok (.aload_n 0, 1) := by decide +kernel
theorem dX10_takeNumber_130 : decode cX10_takeNumber 130 = .ok (.getfield 77, 3) := by decide +kernel
theorem dX10_takeNumber_133 : decode cX10_takeNumber 133 = .ok (.aload_n 0, 1) := by decide +kernel
theorem dX10_takeNumber_134 : decode cX10_takeNumber 134 = .ok (.getfield 87, 3) := by decide +kernel
theorem dX10_takeNumber_137 : decode cX10_takeNumber 137 = .ok (.isub, 1) := by decide +kernel
theorem dX10_takeNumber_138 : decode cX10_takeNumber 138 = .ok (.iconst 4, 1) := by decide +kernel
theorem dX10_takeNumber_139 : decode cX10_takeNumber 139 = .ok (.if_icmp .ge 20, 3) := by decide +kernel
theorem dX10_takeNumber_142 : decode cX10_takeNumber 142 = .ok (.iload 4, 2) := by decide +kernel
theorem dX10_takeNumber_144 : decode cX10_takeNumber 144 = .ok (.i2l, 1) := by decide +kernel
theorem dX10_takeNumber_145 : decode cX10_takeNumber 145 = .ok (.iload_n 1, 1) := by decide +kernel
theorem dX10_takeNumber_146 : decode cX10_takeNumber 146 = .ok (.i2l, 1) := by decide +kernel
theorem dX10_takeNumber_147 : decode cX10_takeNumber 147 = .ok (.iload_n 2, 1) := by decide +kernel
theorem dX10_takeNumber_148 : decode cX10_takeNumber 148 = .ok (.i2l, 1) := by decide +kernel
theorem dX10_takeNumber_149 : decode cX10_takeNumber 149 = .ok (.invokestatic 68, 3) := by decide +kernel
theorem dX10_takeNumber_152 : decode cX10_takeNumber 152 = .ok (.ifCond .eq 7, 3) := by decide +kernel
theorem dX10_takeNumber_155 : decode cX10_takeNumber 155 = .ok (.iconst 1, 1) := by decide +kernel
theorem dX10_takeNumber_156 : decode cX10_takeNumber 156 = .ok (.goto 4, 3) := by decide +kernel
theorem dX10_takeNumber_159 : decode cX10_takeNumber 159 = .ok (.iconst 0, 1) := by decide +kernel
theorem dX10_takeNumber_160 : decode cX10_takeNumber 160 = .ok (.iconst 2, 1) := by decide +kernel
theorem dX10_takeNumber_161 : decode cX10_takeNumber 161 = .ok (.aload_n 0, 1) := by decide +kernel
theorem dX10_takeNumber_162 : decode cX10_takeNumber 162 = .ok (.getfield 87, 3) := by decide +kernel
theorem dX10_takeNumber_165 : decode cX10_takeNumber 165 = .ok (.invokevirtual 94, 3) := by decide +kernel
theorem dX10_takeNumber_168 : decode cX10_takeNumber 168 = .ok (.istore 5, 2) := by decide +kernel
theorem dX10_takeNumber_170 : decode cX10_takeNumber 170 = .ok (.iload 4, 2) := by decide +kernel
theorem dX10_takeNumber_172 : decode cX10_takeNumber 172 = .ok (.ireturn, 1) := by decide +kernel
theorem dX10_takeLog_0 : decode cX10_takeLog 0 = .ok (.iconst 1, 1) := by decide +kernel
theorem dX10_takeLog_1 : decode cX10_takeLog 1 = .ok (.istore_n 1, 1) := by decide +kernel
theorem dX10_takeLog_2 : decode cX10_takeLog 2 = .ok (.iload_n 1, 1) := by decide +kernel
theorem dX10_takeLog_3 : decode cX10_takeLog 3 = .ok (.ifCond .eq 104, 3) := by decide +kernel
theorem dX10_takeLog_6 : decode cX10_takeLog 6 = .ok (.aload_n 0, 1) := by decide +kernel
theorem dX10_takeLog_7 : decode cX10_takeLog 7 = .ok (.getfield 80, 3) := by decide +kernel
theorem dX10_takeLog_10 : decode cX10_takeLog 10 = .ok (.ifCond .ne 97, 3) := by decide +kernel
theorem dX10_takeLog_13 : decode cX10_takeLog 13 = .ok (.aload_n 0, 1) := by decide +kernel
theorem dX10_takeLog_14 : decode cX10_takeLog 14 = .ok (.getfield 17, 3) := by decide +kernel
theorem dX10_takeLog_17 : decode cX10_takeLog 17 = .ok (.bipush 12, 2) := by decide +kernel
theorem dX10_takeLog_19 : decode cX10_takeLog 19 = .ok (.aload_n 0, 1) := by decide +kernel
theorem dX10_takeLog_20 : decode cX10_takeLog 20 = .ok (.getfield 99, 3) := by decide +kernel
theorem dX10_takeLog_23 : decode cX10_takeLog 23 = .ok (.iadd, 1) := by decide +kernel
theorem dX10_takeLog_24 : decode cX10_takeLog 24 = .ok (.aload_n 0, 1) := by decide +kernel
theorem dX10_takeLog_25 : decode cX10_takeLog 25 = .ok (.iconst 1, 1) := by decide +kernel
theorem dX10_takeLog_26 : decode cX10_takeLog 26 = .ok (.bipush 9, 2) := by decide +kernel
theorem dX10_takeLog_28 : decode cX10_takeLog 28 = .ok (.invokevirtual 102, 3) := by decide +kernel
theorem dX10_takeLog_31 : decode cX10_takeLog 31 = .ok (.iastore, 1) := by decide +kernel
theorem dX10_takeLog_32 : decode cX10_takeLog 32 = .ok (.aload_n 0, 1) := by decide +kernel
theorem dX10_takeLog_33 : decode cX10_takeLog 33 = .ok (.dup, 1) := by decide +kernel
theorem dX10_takeLog_34 : decode cX10_takeLog 34 = .ok (.getfield 99, 3) := by decide +kernel
theorem dX10_takeLog_37 : decode cX10_takeLog 37 = .ok (.iconst 1, 1) := by decide +kernel
theorem dX10_takeLog_38 : decode cX10_takeLog 38 = .ok (.iadd, 1) := by decide +kernel
theorem dX10_takeLog_39 : decode cX10_takeLog 39 = .ok (.putfield 99, 3) := by decide +kernel
theorem dX10_takeLog_42 : decode cX10_takeLog 42 = .ok (.aload_n 0, 1) := by decide +kernel
theorem dX10_takeLog_43 : decode cX10_takeLog 43 = .ok (.getfield 80, 3) := by decide +kernel
theorem dX10_takeLog_46 : decode cX10_takeLog 46 = .ok (.ifCond .ne 16, 3) := by decide +kernel
theorem dX10_takeLog_49 : decode cX10_takeLog 49 = .ok (.aload_n 0, 1) := by decide +kernel
theorem dX10_takeLog_50 : decode cX10_takeLog 50 = .ok (.invokevirtual 83, 3) := by decide +kernel
theorem dX10_takeLog_53 : decode cX10_takeLog 53 = .ok (.bipush 44, 2) := by decide +kernel
theorem dX10_takeLog_55 : decode cX10_takeLog 55 = .ok (.if_icmp .ne 7, 3) := by decide +kernel
theorem dX10_takeLog_58 : decode cX10_takeLog 58 = .ok (.iconst 1, 1) := by decide +kernel
theorem dX10_takeLog_59 : decode cX10_takeLog 59 = .ok (.goto 4, 3) := by decide +kernel
theorem dX10_takeLog_62 : decode cX10_takeLog 62 = .ok (.iconst 0, 1) := by decide +kernel
theorem dX10_takeLog_63 : decode cX10_takeLog 63 = .ok (.istore_n 1, 1) := by decide +kernel
theorem dX10_takeLog_64 : decode cX10_takeLog 64 = .ok (.iload_n 1, 1) := by decide +kernel
end
section
theorem dX10_takeLog_65 : decode cX10_takeLog 65 = .ok (.ifCond .eq (-63), 3) := by decide +kernel
theorem dX10_takeLog_68 : decode cX10_takeLog 68 = .ok (.aload_n 0, 1) := by decide +kernel
theorem dX10_takeLog_69 : decode cX10_takeLog 69 = .ok (.aload_n 0, 1) := by decide +kernel
theorem dX10_takeLog_70 : decode cX10_takeLog 70 = .ok (.getfield 99, 3) := by decide +kernel
theorem dX10_takeLog_73 : decode cX10_takeLog 73 = .ok (.bipush 12, 2) := by decide +kernel
theorem dX10_takeLog_75 : decode cX10_takeLog 75 = .ok (.if_icmp .ge 7, 3) := by decide +kernel
theorem dX10_takeLog_78 : decode cX10_takeLog 78 = .ok (.iconst 1, 1) := by decide +kernel
theorem dX10_takeLog_79 : decode cX10_takeLog 79 = .ok (.goto 4, 3) := by decide +kernel
theorem dX10_takeLog_82 : decode cX10_takeLog 82 = .ok (.iconst 0, 1) := by decide +kernel
theorem dX10_takeLog_83 : decode cX10_takeLog 83 = .ok (.iconst 1, 1) := by decide +kernel
theorem dX10_takeLog_84 : decode cX10_takeLog 84 = .ok (.aload_n 0, 1) := by decide +kernel
theorem dX10_takeLog_85 : decode cX10_takeLog 85 = .ok (.getfield 77, 3) := by decide +kernel
theorem dX10_takeLog_88 : decode cX10_takeLog 88 = .ok (.invokevirtual 94, 3) := by decide +kernel
theorem dX10_takeLog_91 : decode cX10_takeLog 91 = .ok (.ifCond .eq (-89), 3) := by decide +kernel
theorem dX10_takeLog_94 : decode cX10_takeLog 94 = .ok (.aload_n 0, 1) := by decide +kernel
theorem dX10_takeLog_95 : decode cX10_takeLog 95 = .ok (.dup, 1) := by decide +kernel
theorem dX10_takeLog_96 : decode cX10_takeLog 96 = .ok (.getfield 77, 3) := by decide +kernel
theorem dX10_takeLog_99 : decode cX10_takeLog 99 = .ok (.iconst 1, 1) := by decide +kernel
theorem dX10_takeLog_100 : decode cX10_takeLog 100 = .ok (.iadd, 1) := by decide +kernel
theorem dX10_takeLog_101 : decode cX10_takeLog 101 = .ok (.putfield 77, 3) := by decide +kernel
theorem dX10_takeLog_104 : decode cX10_takeLog 104 = .ok (.goto (-102), 3) := by decide +kernel
theorem dX10_takeLog_107 : decode cX10_takeLog 107 = .ok (.return_, 1) := by decide +kernel
theorem dX10_takePerson_0 : decode cX10_takePerson 0 = .ok (.iconst 4, 1) := by decide +kernel
theorem dX10_takePerson_1 : decode cX10_takePerson 1 = .ok (.aload_n 0, 1) := by decide +kernel
theorem dX10_takePerson_2 : decode cX10_takePerson 2 = .ok (.getfield 106, 3) := by decide +kernel
theorem dX10_takePerson_5 : decode cX10_takePerson 5 = .ok (.iadd, 1) := by decide +kernel
theorem dX10_takePerson_6 : decode cX10_takePerson 6 = .ok (.istore_n 1, 1) := by decide +kernel
theorem dX10_takePerson_7 : decode cX10_takePerson 7 = .ok (.aload_n 0, 1) := by decide +kernel
theorem dX10_takePerson_8 : decode cX10_takePerson 8 = .ok (.getfield 20, 3) := by decide +kernel
theorem dX10_takePerson_11 : decode cX10_takePerson 11 = .ok (.iload_n 1, 1) := by decide +kernel
theorem dX10_takePerson_12 : decode cX10_takePerson 12 = .ok (.aload_n 0, 1) := by decide +kernel
theorem dX10_takePerson_13 : decode cX10_takePerson 13 = .ok (.iconst 1, 1) := by decide +kernel
theorem dX10_takePerson_14 : decode cX10_takePerson 14 = .ok (.bipush 20, 2) := by decide +kernel
theorem dX10_takePerson_16 : decode cX10_takePerson 16 = .ok (.invokevirtual 102, 3) := by decide +kernel
theorem dX10_takePerson_19 : decode cX10_takePerson 19 = .ok (.iastore, 1) := by decide +kernel
theorem dX10_takePerson_20 : decode cX10_takePerson 20 = .ok (.aload_n 0, 1) := by decide +kernel
theorem dX10_takePerson_21 : decode cX10_takePerson 21 = .ok (.getfield 23, 3) := by decide +kernel
theorem dX10_takePerson_24 : decode cX10_takePerson 24 = .ok (.iload_n 1, 1) := by decide +kernel
theorem dX10_takePerson_25 : decode cX10_takePerson 25 = .ok (.aload_n 0, 1) := by decide +kernel
theorem dX10_takePerson_26 : decode cX10_takePerson 26 = .ok (.iconst 0, 1) := by decide +kernel
theorem dX10_takePerson_27 : decode cX10_takePerson 27 = .ok (.bipush 9, 2) := by decide +kernel
theorem dX10_takePerson_29 : decode cX10_takePerson 29 = .ok (.invokevirtual 102, 3) := by decide +kernel
theorem dX10_takePerson_32 : decode cX10_takePerson 32 = .ok (.iastore, 1) := by decide +kernel
theorem dX10_takePerson_33 : decode cX10_takePerson 33 = .ok (.aload_n 0, 1) := by decide +kernel
theorem dX10_takePerson_34 : decode cX10_takePerson 34 = .ok (.getfield 26, 3) := by decide +kernel
theorem dX10_takePerson_37 : decode cX10_takePerson 37 = .ok (.iload_n 1, 1) := by decide +kernel
theorem dX10_takePerson_38 : decode cX10_takePerson 38 = .ok (.aload_n 0, 1) := by decide +kernel
theorem dX10_takePerson_39 : decode cX10_takePerson 39 = .ok (.iconst 0, 1) := by decide +kernel
theorem dX10_takePerson_40 : decode cX10_takePerson 40 = .ok (.iconst 5, 1) := by decide +kernel
theorem dX10_takePerson_41 : decode cX10_takePerson 41 = .ok (.invokevirtual 102, 3) := by decide +kernel
theorem dX10_takePerson_44 : decode cX10_takePerson 44 = .ok (.iastore, 1) := by decide +kernel
theorem dX10_takePerson_45 : decode cX10_takePerson 45 = .ok (.aload_n 0, 1) := by decide +kernel
theorem dX10_takePerson_46 : decode cX10_takePerson 46 = .ok (.getfield 29, 3) := by decide +kernel
theorem dX10_takePerson_49 : decode cX10_takePerson 49 = .ok (.iload_n 1, 1) := by decide +kernel
theorem dX10_takePerson_50 : decode cX10_takePerson 50 = .ok (.aload_n 0, 1) := by decide +kernel
theorem dX10_takePerson_51 : decode cX10_takePerson 51 = .ok (.iconst 0, 1) := by decide +kernel
theorem dX10_takePerson_52 : decode cX10_takePerson 52 = .ok (.bipush 9, 2) := by decide +kernel
theorem dX10_takePerson_54 : decode cX10_takePerson 54 = .ok (.invokevirtual 102, 3) := by decide +kernel
theorem dX10_takePerson_57 : decode cX10_takePerson 57 = .ok (.iastore, 1) := by decide +kernel
theorem dX10_takePerson_58 : decode cX10_takePerson 58 = .ok (.aload_n 0, 1) := by decide +kernel
theorem dX10_takePerson_59 : decode cX10_takePerson 59 = .ok (.getfield 32, 3) := by decide +kernel
theorem dX10_takePerson_62 : decode cX10_takePerson 62 = .ok (.iload_n 1, 1) := by decide +kernel
theorem dX10_takePerson_63 : decode cX10_takePerson 63 = .ok (.aload_n 0, 1) := by decide +kernel
theorem dX10_takePerson_64 : decode cX10_takePerson 64 = .ok (.iconst 0, 1) := by decide +kernel
theorem dX10_takePerson_65 : decode cX10_takePerson 65 = .ok (.iconst 2, 1) := by decide +kernel
theorem dX10_takePerson_66 : decode cX10_takePerson 66 = .ok (.invokevirtual 102, 3) := by decide +kernel
theorem dX10_takePerson_69 : decode cX10_takePerson 69 = .ok (.iastore, 1) := by decide +kernel
theorem dX10_takePerson_70 : decode cX10_takePerson 70 = .ok (.aload_n 0, 1) := by decide +kernel
theorem dX10_takePerson_71 : decode cX10_takePerson 71 = .ok (.dup, 1) := by decide +kernel
theorem dX10_takePerson_72 : decode cX10_takePerson 72 = .ok (.getfield 106, 3) := by decide +kernel
theorem dX10_takePerson_75 : decode cX10_takePerson 75 = .ok (.iconst 1, 1) := by decide +kernel
theorem dX10_takePerson_76 : decode cX10_takePerson 76 = .ok (.iadd, 1) := by decide +kernel
theorem dX10_takePerson_77 : decode cX10_takePerson 77 = .ok (.putfield 106, 3) := by decide +kernel
theorem dX10_takePerson_80 : decode cX10_takePerson 80 = .ok (.return_, 1) := by decide +kernel
theorem dX10_wordOf_0 : decode cX10_wordOf 0 = .ok (.iload_n 0, 1) := by decide +kernel
theorem dX10_wordOf_1 : decode cX10_wordOf 1 = .ok (.bipush 108, 2) := by decide +kernel
theorem dX10_wordOf_3 : decode cX10_wordOf 3 = .ok (.if_icmp .ne 7, 3) := by decide +kernel
theorem dX10_wordOf_6 : decode cX10_wordOf 6 = .ok (.iconst 0, 1) := by decide +kernel
theorem dX10_wordOf_7 : decode cX10_wordOf 7 = .ok (.goto 34, 3) := by decide +kernel
theorem dX10_wordOf_10 : decode cX10_wordOf 10 = .ok (.iload_n 0, 1) := by decide +kernel
theorem dX10_wordOf_11 : decode cX10_wordOf 11 = .ok (.bipush 115, 2) := by decide +kernel
theorem dX10_wordOf_13 : decode cX10_wordOf 13 = .ok (.if_icmp .ne 7, 3) := by decide +kernel
theorem dX10_wordOf_16 : decode cX10_wordOf 16 = .ok (.iconst 1, 1) := by decide +kernel
theorem dX10_wordOf_17 : decode cX10_wordOf 17 = .ok (.goto 24, 3) := by decide +kernel
theorem dX10_wordOf_20 : decode cX10_wordOf 20 = .ok (.iload_n 0, 1) := by decide +kernel
theorem dX10_wordOf_21 : decode cX10_wordOf 21 = .ok (.bipush 99, 2) := by decide +kernel
theorem dX10_wordOf_23 : decode cX10_wordOf 23 = .ok (.if_icmp .ne 7, 3) := by decide +kernel
theorem dX10_wordOf_26 : decode cX10_wordOf 26 = .ok (.iconst 2, 1) := by decide +kernel
theorem dX10_wordOf_27 : decode cX10_wordOf 27 = .ok (.goto 14, 3) := by decide +kernel
theorem dX10_wordOf_30 : decode cX10_wordOf 30 = .ok (.iload_n 0, 1) := by decide +kernel
theorem dX10_wordOf_31 : decode cX10_wordOf 31 = .ok (.bipush 112, 2) := by decide +kernel
theorem dX10_wordOf_33 : decode cX10_wordOf 33 = .ok (.if_icmp .ne 7, 3) := by decide +kernel
theorem dX10_wordOf_36 : decode cX10_wordOf 36 = .ok (.iconst 3, 1) := by decide +kernel
theorem dX10_wordOf_37 : decode cX10_wordOf 37 = .ok (.goto 4, 3) := by decide +kernel
theorem dX10_wordOf_40 : decode cX10_wordOf 40 = .ok (.iconst (-1), 1) := by decide +kernel
theorem dX10_wordOf_41 : decode cX10_wordOf 41 = .ok (.ireturn, 1) := by decide +kernel
theorem dX10_takeClause_0 : decode cX10_takeClause 0 = .ok (.aload_n 0, 1) := by decide +kernel
theorem dX10_takeClause_1 : decode cX10_takeClause 1 = .ok (.invokevirtual 83, 3) := by decide +kernel
theorem dX10_takeClause_4 : decode cX10_takeClause 4 = .ok (.invokestatic 109, 3) := by decide +kernel
theorem dX10_takeClause_7 : decode cX10_takeClause 7 = .ok (.istore_n 1, 1) := by decide +kernel
theorem dX10_takeClause_8 : decode cX10_takeClause 8 = .ok (.aload_n 0, 1) := by decide +kernel
theorem dX10_takeClause_9 : decode cX10_takeClause 9 = .ok (.getfield 77, 3) := by decide +kernel
theorem dX10_takeClause_12 : decode cX10_takeClause 12 = .ok (.istore_n 2, 1) := by decide +kernel
theorem dX10_takeClause_13 : decode cX10_takeClause 13 = .ok (.aload_n 0, 1) := by decide +kernel
theorem dX10_takeClause_14 : decode cX10_takeClause 14 = .ok (.dup, 1) := by decide +kernel
theorem dX10_takeClause_15 : decode cX10_takeClause 15 = .ok (.getfield 77, 3) := by decide +kernel
theorem dX10_takeClause_18 : decode cX10_takeClause 18 = .ok (.iconst 1, 1) := by decide +kernel
theorem dX10_takeClause_19 : decode cX10_takeClause 19 = .ok (.iadd, 1) := by decide +kernel
theorem dX10_takeClause_20 : decode cX10_takeClause 20 = .ok (.putfield 77, 3) := by decide +kernel
theorem dX10_takeClause_23 : decode cX10_takeClause 23 = .ok (.iload_n 1, 1) := by decide +kernel
theorem dX10_takeClause_24 : decode cX10_takeClause 24 = .ok (.ifCond .eq 18, 3) := by decide +kernel
theorem dX10_takeClause_27 : decode cX10_takeClause 27 = .ok (.iload_n 1, 1) := by decide +kernel
theorem dX10_takeClause_28 : decode cX10_takeClause 28 = .ok (.ifCond .le 18, 3) := by decide +kernel
theorem dX10_takeClause_31 : decode cX10_takeClause 31 = .ok (.aload_n 0, 1) := by decide +kernel
theorem dX10_takeClause_32 : decode cX10_takeClause 32 = .ok (.getfield 113, 3) := by decide +kernel
theorem dX10_takeClause_35 : decode cX10_takeClause 35 = .ok (.iconst 0, 1) := by decide +kernel
theorem dX10_takeClause_36 : decode cX10_takeClause 36 = .ok (.invokestatic 116, 3) := by decide +kernel
theorem dX10_takeClause_39 : decode cX10_takeClause 39 = .ok (.ifCond .eq 7, 3) := by decide +kernel
theorem dX10_takeClause_42 : decode cX10_takeClause 42 = .ok (.iconst 1, 1) := by decide +kernel
theorem dX10_takeClause_43 : decode cX10_takeClause 43 = .ok (.goto 4, 3) := by decide +kernel
theorem dX10_takeClause_46 : decode cX10_takeClause 46 = .ok (.iconst 0, 1) := by decide +kernel
theorem dX10_takeClause_47 : decode cX10_takeClause 47 = .ok (.istore_n 3, 1) := by decide +kernel
theorem dX10_takeClause_48 : decode cX10_takeClause 48 = .ok (.iload_n 1, 1) := by decide +kernel
theorem dX10_takeClause_49 : decode cX10_takeClause 49 = .ok (.iconst 3, 1) := by decide +kernel
theorem dX10_takeClause_50 : decode cX10_takeClause 50 = .ok (.if_icmp .ne 19, 3) := by decide +kernel
theorem dX10_takeClause_53 : decode cX10_takeClause 53 = .ok (.aload_n 0, 1) := by decide +kernel
theorem dX10_takeClause_54 : decode cX10_takeClause 54 = .ok (.getfield 106, 3) := by decide +kernel
theorem dX10_takeClause_57 : decode cX10_takeClause 57 = .ok (.iconst 4, 1) := by decide +kernel
theorem dX10_takeClause_58 : decode cX10_takeClause 58 = .ok (.if_icmp .ne 7, 3) := by decide +kernel
theorem dX10_takeClause_61 : decode cX10_takeClause 61 = .ok (.iconst 1, 1) := by decide +kernel
theorem dX10_takeClause_62 : decode cX10_takeClause 62 = .ok (.goto 15, 3) := by decide +kernel
theorem dX10_takeClause_65 : decode cX10_takeClause 65 = .ok (.iconst 0, 1) := by decide +kernel
theorem dX10_takeClause_66 : decode cX10_takeClause 66 = .ok (.goto 11, 3) := by decide +kernel
theorem dX10_takeClause_69 : decode cX10_takeClause 69 = .ok (.aload_n 0, 1) := by decide +kernel
theorem dX10_takeClause_70 : decode cX10_takeClause 70 = .ok (.getfield 113, 3) := by decide +kernel
theorem dX10_takeClause_73 : decode cX10_takeClause 73 = .ok (.iload_n 1, 1) := by decide +kernel
theorem dX10_takeClause_74 : decode cX10_takeClause 74 = .ok (.invokestatic 116, 3) := by decide +kernel
theorem dX10_takeClause_77 : decode cX10_takeClause 77 = .ok (.istore 4, 2) := by decide +kernel
theorem dX10_takeClause_79 : decode cX10_takeClause 79 = .ok (.aload_n 0, 1) := by decide +kernel
theorem dX10_takeClause_80 : decode cX10_takeClause 80 = .ok (.iload_n 3, 1) := by decide +kernel
theorem dX10_takeClause_81 : decode cX10_takeClause 81 = .ok (.iconst 1, 1) := by decide +kernel
theorem dX10_takeClause_82 : decode cX10_takeClause 82 = .ok (.iload_n 2, 1) := by decide +kernel
theorem dX10_takeClause_83 : decode cX10_takeClause 83 = .ok (.invokevirtual 94, 3) := by decide +kernel
theorem dX10_takeClause_86 : decode cX10_takeClause 86 = .ok (.ifCond .eq 22, 3) := by decide +kernel
theorem dX10_takeClause_89 : decode cX10_takeClause 89 = .ok (.aload_n 0, 1) := by decide +kernel
theorem dX10_takeClause_90 : decode cX10_takeClause 90 = .ok (.iload 4, 2) := by decide +kernel
theorem dX10_takeClause_92 : decode cX10_takeClause 92 = .ok (.ifCond .ne 7, 3) := by decide +kernel
theorem dX10_takeClause_95 : decode cX10_takeClause 95 = .ok (.iconst 1, 1) := by decide +kernel
theorem dX10_takeClause_96 : decode cX10_takeClause 96 = .ok (.goto 4, 3) := by decide +kernel
theorem dX10_takeClause_99 : decode cX10_takeClause 99 = .ok (.iconst 0, 1) := by decide +kernel
theorem dX10_takeClause_100 : decode cX10_takeClause 100 = .ok (.iconst 3, 1) := by decide +kernel
theorem dX10_takeClause_101 : decode cX10_takeClause 101 = .ok (.iload_n 2, 1) := by decide +kernel
theorem dX10_takeClause_102 : decode cX10_takeClause 102 = .ok (.invokevirtual 94, 3) := by decide +kernel
theorem dX10_takeClause_105 : decode cX10_takeClause 105 = .ok (.ifCond .ne 4, 3) := by decide +kernel
theorem dX10_takeClause_108 : decode cX10_takeClause 108 = .ok (.return_, 1) := by decide +kernel
theorem dX10_takeClause_109 : decode cX10_takeClause 109 = .ok (.aload_n 0, 1) := by decide +kernel
theorem dX10_takeClause_110 : decode cX10_takeClause 110 = .ok (.dup, 1) := by decide +kernel
theorem dX10_takeClause_111 : decode cX10_takeClause 111 = .ok (.getfield 113, 3) := by decide +kernel
theorem dX10_takeClause_114 : decode cX10_takeClause 114 = .ok (.iconst 1, 1) := by decide +kernel
theorem dX10_takeClause_115 : decode cX10_takeClause 115 = .ok (.iload_n 1, 1) := by decide +kernel
theorem dX10_takeClause_116 : decode cX10_takeClause 116 = .ok (.ishl, 1) := by decide +kernel
theorem dX10_takeClause_117 : decode cX10_takeClause 117 = .ok (.ior, 1) := by decide +kernel
theorem dX10_takeClause_118 : decode cX10_takeClause 118 = .ok (.putfield 113, 3) := by decide +kernel
theorem dX10_takeClause_121 : decode cX10_takeClause 121 = .ok (.iload_n 1, 1) := by decide +kernel
theorem dX10_takeClause_122 : decode cX10_takeClause 122 = .ok (.ifCond .ne 10, 3) := by decide +kernel
theorem dX10_takeClause_125 : decode cX10_takeClause 125 = .ok (.aload_n 0, 1) := by decide +kernel
theorem dX10_takeClause_126 : decode cX10_takeClause 126 = .ok (.invokevirtual 120, 3) := by decide +kernel
theorem dX10_takeClause_129 : decode cX10_takeClause 129 = .ok (.goto 67, 3) := by decide +kernel
theorem dX10_takeClause_132 : decode cX10_takeClause 132 = .ok (.iload_n 1, 1) := by decide +kernel
theorem dX10_takeClause_133 : decode cX10_takeClause 133 = .ok (.iconst 1, 1) := by decide +kernel
theorem dX10_takeClause_134 : decode cX10_takeClause 134 = .ok (.if_icmp .ne 39, 3) := by decide +kernel
theorem dX10_takeClause_137 : decode cX10_takeClause 137 = .ok (.aload_n 0, 1) := by decide +kernel
theorem dX10_takeClause_138 : decode cX10_takeClause 138 = .ok (.aload_n 0, 1) := by decide +kernel
theorem dX10_takeClause_139 : decode cX10_takeClause 139 = .ok (.iconst 1, 1) := by decide +kernel
theorem dX10_takeClause_140 : decode cX10_takeClause 140 = .ok (.bipush 9, 2) := by decide +kernel
theorem dX10_takeClause_142 : decode cX10_takeClause 142 = .ok (.invokevirtual 102, 3) := by decide +kernel
theorem dX10_takeClause_145 : decode cX10_takeClause 145 = .ok (.putfield 123, 3) := by decide +kernel
theorem dX10_takeClause_148 : decode cX10_takeClause 148 = .ok (.aload_n 0, 1) := by decide +kernel
theorem dX10_takeClause_149 : decode cX10_takeClause 149 = .ok (.aload_n 0, 1) := by decide +kernel
theorem dX10_takeClause_150 : decode cX10_takeClause 150 = .ok (.iconst 0, 1) := by decide +kernel
theorem dX10_takeClause_151 : decode cX10_takeClause 151 = .ok (.bipush 9, 2) := by decide +kernel
theorem dX10_takeClause_153 : decode cX10_takeClause 153 = .ok (.invokevirtual 102, 3) := by decide +kernel
theorem dX10_takeClause_156 : decode cX10_takeClause 156 = .ok (.putfield 126, 3) := by decide +kernel
theorem dX10_takeClause_159 : decode cX10_takeClause 159 = .ok (.aload_n 0, 1) := by decide +kernel
theorem dX10_takeClause_160 : decode cX10_takeClause 160 = .ok (.aload_n 0, 1) := by decide +kernel
theorem dX10_takeClause_161 : decode cX10_takeClause 161 = .ok (.iconst 0, 1) := by decide +kernel
theorem dX10_takeClause_162 : decode cX10_takeClause 162 = .ok (.bipush 9, 2) := by decide +kernel
theorem dX10_takeClause_164 : decode cX10_takeClause 164 = .ok (.invokevirtual 102, 3) := by decide +kernel
theorem dX10_takeClause_167 : decode cX10_takeClause 167 = .ok (.putfield 129, 3) := by decide +kernel
theorem dX10_takeClause_170 : decode cX10_takeClause 170 = .ok (.goto 26, 3) := by decide +kernel
theorem dX10_takeClause_173 : decode cX10_takeClause 173 = .ok (.iload_n 1, 1) := by decide +kernel
theorem dX10_takeClause_174 : decode cX10_takeClause 174 = .ok (.iconst 2, 1) := by decide +kernel
theorem dX10_takeClause_175 : decode cX10_takeClause 175 = .ok (.if_icmp .ne 17, 3) := by decide +kernel
theorem dX10_takeClause_178 : decode cX10_takeClause 178 = .ok (.aload_n 0, 1) := by decide +kernel
theorem dX10_takeClause_179 : decode cX10_takeClause 179 = .ok (.aload_n 0, 1) := by decide +kernel
theorem dX10_takeClause_180 : decode cX10_takeClause 180 = .ok (.iconst 0, 1) := by decide +kernel
theorem dX10_takeClause_181 : decode cX10_takeClause 181 = .ok (.bipush 12, 2) := by decide +kernel
theorem dX10_takeClause_183 : decode cX10_takeClause 183 = .ok (.invokevirtual 102, 3) := by decide +kernel
theorem dX10_takeClause_186 : decode cX10_takeClause 186 = .ok (.putfield 132, 3) := by decide +kernel
theorem dX10_takeClause_189 : decode cX10_takeClause 189 = .ok (.goto 7, 3) := by decide +kernel
theorem dX10_takeClause_192 : decode cX10_takeClause 192 = .ok (.aload_n 0, 1) := by decide +kernel
theorem dX10_takeClause_193 : decode cX10_takeClause 193 = .ok (.invokevirtual 135, 3) := by decide +kernel
theorem dX10_takeClause_196 : decode cX10_takeClause 196 = .ok (.return_, 1) := by decide +kernel
theorem dX10_yard_0 : decode cX10_yard 0 = .ok (.aload_n 0, 1) := by decide +kernel
theorem dX10_yard_1 : decode cX10_yard 1 = .ok (.iconst 0, 1) := by decide +kernel
theorem dX10_yard_2 : decode cX10_yard 2 = .ok (.putfield 77, 3) := by decide +kernel
theorem dX10_yard_5 : decode cX10_yard 5 = .ok (.aload_n 0, 1) := by decide +kernel
theorem dX10_yard_6 : decode cX10_yard 6 = .ok (.iconst 0, 1) := by decide +kernel
theorem dX10_yard_7 : decode cX10_yard 7 = .ok (.putfield 80, 3) := by decide +kernel
theorem dX10_yard_10 : decode cX10_yard 10 = .ok (.aload_n 0, 1) := by decide +kernel
theorem dX10_yard_11 : decode cX10_yard 11 = .ok (.iconst (-1), 1) := by decide +kernel
theorem dX10_yard_12 : decode cX10_yard 12 = .ok (.putfield 38, 3) := by decide +kernel
theorem dX10_yard_15 : decode cX10_yard 15 = .ok (.aload_n 0, 1) := by decide +kernel
theorem dX10_yard_16 : decode cX10_yard 16 = .ok (.iconst 0, 1) := by decide +kernel
theorem dX10_yard_17 : decode cX10_yard 17 = .ok (.putfield 99, 3) := by decide +kernel
theorem dX10_yard_20 : decode cX10_yard 20 = .ok (.aload_n 0, 1) := by decide +kernel
theorem dX10_yard_21 : decode cX10_yard 21 = .ok (.iconst 0, 1) := by decide +kernel
theorem dX10_yard_22 : decode cX10_yard 22 = .ok (.putfield 106, 3) := by decide +kernel
theorem dX10_yard_25 : decode cX10_yard 25 = .ok (.aload_n 0, 1) := by decide +kernel
theorem dX10_yard_26 : decode cX10_yard 26 = .ok (.iconst 5, 1) := by decide +kernel
theorem dX10_yard_27 : decode cX10_yard 27 = .ok (.putfield 123, 3) := by decide +kernel
theorem dX10_yard_30 : decode cX10_yard 30 = .ok (.aload_n 0, 1) := by decide +kernel
theorem dX10_yard_31 : decode cX10_yard 31 = .ok (.iconst 2, 1) := by decide +kernel
theorem dX10_yard_32 : decode cX10_yard 32 = .ok (.putfield 126, 3) := by decide +kernel
theorem dX10_yard_35 : decode cX10_yard 35 = .ok (.aload_n 0, 1) := by decide +kernel
theorem dX10_yard_36 : decode cX10_yard 36 = .ok (.iconst 0, 1) := by decide +kernel
theorem dX10_yard_37 : decode cX10_yard 37 = .ok (.putfield 129, 3) := by decide +kernel
theorem dX10_yard_40 : decode cX10_yard 40 = .ok (.aload_n 0, 1) := by decide +kernel
theorem dX10_yard_41 : decode cX10_yard 41 = .ok (.bipush 12, 2) := by decide +kernel
theorem dX10_yard_43 : decode cX10_yard 43 = .ok (.putfield 132, 3) := by decide +kernel
theorem dX10_yard_46 : decode cX10_yard 46 = .ok (.aload_n 0, 1) := by decide +kernel
theorem dX10_yard_47 : decode cX10_yard 47 = .ok (.iconst 0, 1) := by decide +kernel
theorem dX10_yard_48 : decode cX10_yard 48 = .ok (.putfield 113, 3) := by decide +kernel
theorem dX10_yard_51 : decode cX10_yard 51 = .ok (.aload_n 0, 1) := by decide +kernel
theorem dX10_yard_52 : decode cX10_yard 52 = .ok (.getfield 80, 3) := by decide +kernel
theorem dX10_yard_55 : decode cX10_yard 55 = .ok (.ifCond .ne 60, 3) := by decide +kernel
theorem dX10_yard_58 : decode cX10_yard 58 = .ok (.aload_n 0, 1) := by decide +kernel
theorem dX10_yard_59 : decode cX10_yard 59 = .ok (.invokevirtual 83, 3) := by decide +kernel
theorem dX10_yard_62 : decode cX10_yard 62 = .ok (.ifCond .lt 53, 3) := by decide +kernel
theorem dX10_yard_65 : decode cX10_yard 65 = .ok (.aload_n 0, 1) := by decide +kernel
theorem dX10_yard_66 : decode cX10_yard 66 = .ok (.invokevirtual 138, 3) := by decide +kernel
theorem dX10_yard_69 : decode cX10_yard 69 = .ok (.aload_n 0, 1) := by decide +kernel
theorem dX10_yard_70 : decode cX10_yard 70 = .ok (.getfield 80, 3) := by decide +kernel
theorem dX10_yard_73 : decode cX10_yard 73 = .ok (.ifCond .ne (-22), 3) := by decide +kernel
theorem dX10_yard_76 : decode cX10_yard 76 = .ok (.aload_n 0, 1) := by decide +kernel
theorem dX10_yard_77 : decode cX10_yard 77 = .ok (.aload_n 0, 1) := by decide +kernel
theorem dX10_yard_78 : decode cX10_yard 78 = .ok (.invokevirtual 83, 3) := by decide +kernel
theorem dX10_yard_81 : decode cX10_yard 81 = .ok (.bipush 59, 2) := by decide +kernel
theorem dX10_yard_83 : decode cX10_yard 83 = .ok (.if_icmp .ne 7, 3) := by decide +kernel
theorem dX10_yard_86 : decode cX10_yard 86 = .ok (.iconst 1, 1) := by decide +kernel
theorem dX10_yard_87 : decode cX10_yard 87 = .ok (.goto 4, 3) := by decide +kernel
theorem dX10_yard_90 : decode cX10_yard 90 = .ok (.iconst 0, 1) := by decide +kernel
theorem dX10_yard_91 : decode cX10_yard 91 = .ok (.iconst 1, 1) := by decide +kernel
theorem dX10_yard_92 : decode cX10_yard 92 = .ok (.aload_n 0, 1) := by decide +kernel
theorem dX10_yard_93 : decode cX10_yard 93 = .ok (.getfield 77, 3) := by decide +kernel
theorem dX10_yard_96 : decode cX10_yard 96 = .ok (.invokevirtual 94, 3) := by decide +kernel
theorem dX10_yard_99 : decode cX10_yard 99 = .ok (.ifCond .eq (-48), 3) := by decide +kernel
theorem dX10_yard_102 : decode cX10_yard 102 = .ok (.aload_n 0, 1) := by decide +kernel
theorem dX10_yard_103 : decode cX10_yard 103 = .ok (.dup, 1) := by decide +kernel
theorem dX10_yard_104 : decode cX10_yard 104 = .ok (.getfield 77, 3) := by decide +kernel
theorem dX10_yard_107 : decode cX10_yard 107 = .ok (.iconst 1, 1) := by decide +kernel
theorem dX10_yard_108 : decode cX10_yard 108 = .ok (.iadd, 1) := by decide +kernel
theorem dX10_yard_109 : decode cX10_yard 109 = .ok (.putfield 77, 3) := by decide +kernel
theorem dX10_yard_112 : decode cX10_yard 112 = .ok (.goto (-61), 3) := by decide +kernel
theorem dX10_yard_115 : decode cX10_yard 115 = .ok (.aload_n 0, 1) := by decide +kernel
theorem dX10_yard_116 : decode cX10_yard 116 = .ok (.iconst 0, 1) := by decide +kernel
theorem dX10_yard_117 : decode cX10_yard 117 = .ok (.putfield 73, 3) := by decide +kernel
theorem dX10_yard_120 : decode cX10_yard 120 = .ok (.aload_n 0, 1) := by decide +kernel
theorem dX10_yard_121 : decode cX10_yard 121 = .ok (.getfield 80, 3) := by decide +kernel
theorem dX10_yard_124 : decode cX10_yard 124 = .ok (.ifCond .le 11, 3) := by decide +kernel
theorem dX10_yard_127 : decode cX10_yard 127 = .ok (.bipush (-10), 2) := by decide +kernel
theorem dX10_yard_129 : decode cX10_yard 129 = .ok (.aload_n 0, 1) := by decide +kernel
theorem dX10_yard_130 : decode cX10_yard 130 = .ok (.getfield 80, 3) := by decide +kernel
theorem dX10_yard_133 : decode cX10_yard 133 = .ok (.isub, 1) := by decide +kernel
theorem dX10_yard_134 : decode cX10_yard 134 = .ok (.ireturn, 1) := by decide +kernel
theorem dX10_yard_135 : decode cX10_yard 135 = .ok (.aload_n 0, 1) := by decide +kernel
theorem dX10_yard_136 : decode cX10_yard 136 = .ok (.invokevirtual 141, 3) := by decide +kernel
theorem dX10_yard_139 : decode cX10_yard 139 = .ok (.aload_n 0, 1) := by decide +kernel
theorem dX10_yard_140 : decode cX10_yard 140 = .ok (.getfield 144, 3) := by decide +kernel
theorem dX10_yard_143 : decode cX10_yard 143 = .ok (.ireturn, 1) := by decide +kernel
theorem dX10_take_0 : decode cX10_take 0 = .ok (.aload_n 0, 1) := by decide +kernel
theorem dX10_take_1 : decode cX10_take 1 = .ok (.aload_n 0, 1) := by decide +kernel
theorem dX10_take_2 : decode cX10_take 2 = .ok (.getfield 99, 3) := by decide +kernel
theorem dX10_take_5 : decode cX10_take 5 = .ok (.putfield 144, 3) := by decide +kernel
theorem dX10_take_8 : decode cX10_take 8 = .ok (.aload_n 0, 1) := by decide +kernel
theorem dX10_take_9 : decode cX10_take 9 = .ok (.aload_n 0, 1) := by decide +kernel
theorem dX10_take_10 : decode cX10_take 10 = .ok (.getfield 106, 3) := by decide +kernel
theorem dX10_take_13 : decode cX10_take 13 = .ok (.putfield 147, 3) := by decide +kernel
theorem dX10_take_16 : decode cX10_take 16 = .ok (.aload_n 0, 1) := by decide +kernel
theorem dX10_take_17 : decode cX10_take 17 = .ok (.aload_n 0, 1) := by decide +kernel
theorem dX10_take_18 : decode cX10_take 18 = .ok (.getfield 126, 3) := by decide +kernel
theorem dX10_take_21 : decode cX10_take 21 = .ok (.putfield 60, 3) := by decide +kernel
theorem dX10_take_24 : decode cX10_take 24 = .ok (.aload_n 0, 1) := by decide +kernel
theorem dX10_take_25 : decode cX10_take 25 = .ok (.aload_n 0, 1) := by decide +kernel
theorem dX10_take_26 : decode cX10_take 26 = .ok (.getfield 129, 3) := by decide +kernel
theorem dX10_take_29 : decode cX10_take 29 = .ok (.putfield 150, 3) := by decide +kernel
theorem dX10_take_32 : decode cX10_take 32 = .ok (.aload_n 0, 1) := by decide +kernel
theorem dX10_take_33 : decode cX10_take 33 = .ok (.aload_n 0, 1) := by decide +kernel
theorem dX10_take_34 : decode cX10_take 34 = .ok (.getfield 132, 3) := by decide +kernel
theorem dX10_take_37 : decode cX10_take 37 = .ok (.putfield 63, 3) := by decide +kernel
theorem dX10_take_40 : decode cX10_take 40 = .ok (.iconst 0, 1) := by decide +kernel
theorem dX10_take_41 : decode cX10_take 41 = .ok (.istore_n 1, 1) := by decide +kernel
theorem dX10_take_42 : decode cX10_take 42 = .ok (.iload_n 1, 1) := by decide +kernel
theorem dX10_take_43 : decode cX10_take 43 = .ok (.bipush 12, 2) := by decide +kernel
theorem dX10_take_45 : decode cX10_take 45 = .ok (.if_icmp .ge 24, 3) := by decide +kernel
theorem dX10_take_48 : decode cX10_take 48 = .ok (.aload_n 0, 1) := by decide +kernel
theorem dX10_take_49 : decode cX10_take 49 = .ok (.getfield 17, 3) := by decide +kernel
theorem dX10_take_52 : decode cX10_take 52 = .ok (.iload_n 1, 1) := by decide +kernel
theorem dX10_take_53 : decode cX10_take 53 = .ok (.aload_n 0, 1) := by decide +kernel
theorem dX10_take_54 : decode cX10_take 54 = .ok (.getfield 17, 3) := by decide +kernel
theorem dX10_take_57 : decode cX10_take 57 = .ok (.bipush 12, 2) := by decide +kernel
theorem dX10_take_59 : decode cX10_take 59 = .ok (.iload_n 1, 1) := by decide +kernel
theorem dX10_take_60 : decode cX10_take 60 = .ok (.iadd, 1) := by decide +kernel
theorem dX10_take_61 : decode cX10_take 61 = .ok (.iaload, 1) := by decide +kernel
theorem dX10_take_62 : decode cX10_take 62 = .ok (.iastore, 1) := by decide +kernel
theorem dX10_take_63 : decode cX10_take 63 = .ok (.iinc 1 1, 3) := by decide +kernel
theorem dX10_take_66 : decode cX10_take 66 = .ok (.goto (-24), 3) := by decide +kernel
theorem dX10_take_69 : decode cX10_take 69 = .ok (.iconst 0, 1) := by decide +kernel
theorem dX10_take_70 : decode cX10_take 70 = .ok (.istore_n 1, 1) := by decide +kernel
theorem dX10_take_71 : decode cX10_take 71 = .ok (.iload_n 1, 1) := by decide +kernel
theorem dX10_take_72 : decode cX10_take 72 = .ok (.iconst 4, 1) := by decide +kernel
theorem dX10_take_73 : decode cX10_take 73 = .ok (.if_icmp .ge 106, 3) := by decide +kernel
theorem dX10_take_76 : decode cX10_take 76 = .ok (.aload_n 0, 1) := by decide +kernel
theorem dX10_take_77 : decode cX10_take 77 = .ok (.getfield 20, 3) := by decide +kernel
theorem dX10_take_80 : decode cX10_take 80 = .ok (.iload_n 1, 1) := by decide +kernel
theorem dX10_take_81 : decode cX10_take 81 = .ok (.aload_n 0, 1) := by decide +kernel
theorem dX10_take_82 : decode cX10_take 82 = .ok (.getfield 20, 3) := by decide +kernel
theorem dX10_take_85 : decode cX10_take 85 = .ok (.iconst 4, 1) := by decide +kernel
theorem dX10_take_86 : decode cX10_take 86 = .ok (.iload_n 1, 1) := by decide +kernel
theorem dX10_take_87 : decode cX10_take 87 = .ok (.iadd, 1) := by decide +kernel
theorem dX10_take_88 : decode cX10_take 88 = .ok (.iaload, 1) := by decide +kernel
theorem dX10_take_89 : decode cX10_take 89 = .ok (.iastore, 1) := by decide +kernel
theorem dX10_take_90 : decode cX10_take 90 = .ok (.aload_n 0, 1) := by decide +kernel
theorem dX10_take_91 : decode cX10_take 91 = .ok (.getfield 23, 3) := by decide +kernel
theorem dX10_take_94 : decode cX10_take 94 = .ok (.iload_n 1, 1) := by decide +kernel
theorem dX10_take_95 : decode cX10_take 95 = .ok (.aload_n 0, 1) := by decide +kernel
theorem dX10_take_96 : decode cX10_take 96 = .ok (.getfield 23, 3) := by decide +kernel
theorem dX10_take_99 : decode cX10_take 99 = .ok (.iconst 4, 1) := by decide +kernel
theorem dX10_take_100 : decode cX10_take 100 = .ok (.iload_n 1, 1) := by decide +kernel
theorem dX10_take_101 : decode cX10_take 101 = .ok (.iadd, 1) := by decide +kernel
theorem dX10_take_102 : decode cX10_take 102 = .ok (.iaload, 1) := by decide +kernel
theorem dX10_take_103 : decode cX10_take 103 = .ok (.iastore, 1) := by decide +kernel
theorem dX10_take_104 : decode cX10_take 104 = .ok (.aload_n 0, 1) := by decide +kernel
theorem dX10_take_105 : decode cX10_take 105 = .ok (.getfield 26, 3) := by decide +kernel
theorem dX10_take_108 : decode cX10_take 108 = .ok (.iload_n 1, 1) := by decide +kernel
theorem dX10_take_109 : decode cX10_take 109 = .ok (.aload_n 0, 1) := by decide +kernel
theorem dX10_take_110 : decode cX10_take 110 = .ok (.getfield 26, 3) := by decide +kernel
theorem dX10_take_113 : decode cX10_take 113 = .ok (.iconst 4, 1) := by decide +kernel
theorem dX10_take_114 : decode cX10_take 114 = .ok (.iload_n 1, 1) := by decide +kernel
theorem dX10_take_115 : decode cX10_take 115 = .ok (.iadd, 1) := by decide +kernel
theorem dX10_take_116 : decode cX10_take 116 = .ok (.iaload, 1) := by decide +kernel
theorem dX10_take_117 : decode cX10_take 117 = .ok (.iastore, 1) := by decide +kernel
theorem dX10_take_118 : decode cX10_take 118 = .ok (.aload_n 0, 1) := by decide +kernel
theorem dX10_take_119 : decode cX10_take 119 = .ok (.getfield 29, 3) := by decide +kernel
theorem dX10_take_122 : decode cX10_take 122 = .ok (.iload_n 1, 1) := by decide +kernel
theorem dX10_take_123 : decode cX10_take 123 = .ok (.aload_n 0, 1) := by decide +kernel
theorem dX10_take_124 : decode cX10_take 124 = .ok (.getfield 29, 3) := by decide +kernel
theorem dX10_take_127 : decode cX10_take 127 = .ok (.iconst 4, 1) := by decide +kernel
theorem dX10_take_128 : decode cX10_take 128 = .ok (.iload_n 1, 1) := by decide +kernel
theorem dX10_take_129 : decode cX10_take 129 = .ok (.iadd, 1) := by decide +kernel
theorem dX10_take_130 : decode cX10_take 130 = .ok (.iaload, 1) := by decide +kernel
theorem dX10_take_131 : decode cX10_take 131 = .ok (.iastore, 1) := by decide +kernel
theorem dX10_take_132 : decode cX10_take 132 = .ok (.aload_n 0, 1) := by decide +kernel
theorem dX10_take_133 : decode cX10_take 133 = .ok (.getfield 32, 3) := by decide +kernel
theorem dX10_take_136 : decode cX10_take 136 = .ok (.iload_n 1, 1) := by decide +kernel
theorem dX10_take_137 : decode cX10_take 137 = .ok (.aload_n 0, 1) := by decide +kernel
theorem dX10_take_138 : decode cX10_take 138 = .ok (.getfield 32, 3) := by decide +kernel
theorem dX10_take_141 : decode cX10_take 141 = .ok (.iconst 4, 1) := by decide +kernel
theorem dX10_take_142 : decode cX10_take 142 = .ok (.iload_n 1, 1) := by decide +kernel
theorem dX10_take_143 : decode cX10_take 143 = .ok (.iadd, 1) := by decide +kernel
theorem dX10_take_144 : decode cX10_take 144 = .ok (.iaload, 1) := by decide +kernel
theorem dX10_take_145 : decode cX10_take 145 = .ok (.iastore, 1) := by decide +kernel
theorem dX10_take_146 : decode cX10_take 146 = .ok (.aload_n 0, 1) := by decide +kernel
theorem dX10_take_147 : decode cX10_take 147 = .ok (.getfield 7, 3) := by decide +kernel
theorem dX10_take_150 : decode cX10_take 150 = .ok (.iload_n 1, 1) := by decide +kernel
theorem dX10_take_151 : decode cX10_take 151 = .ok (.aload_n 0, 1) := by decide +kernel
theorem dX10_take_152 : decode cX10_take 152 = .ok (.getfield 20, 3) := by decide +kernel
theorem dX10_take_155 : decode cX10_take 155 = .ok (.iload_n 1, 1) := by decide +kernel
theorem dX10_take_156 : decode cX10_take 156 = .ok (.iaload, 1) := by decide +kernel
theorem dX10_take_157 : decode cX10_take 157 = .ok (.iastore, 1) := by decide +kernel
theorem dX10_take_158 : decode cX10_take 158 = .ok (.aload_n 0, 1) := by decide +kernel
theorem dX10_take_159 : decode cX10_take 159 = .ok (.getfield 7, 3) := by decide +kernel
theorem dX10_take_162 : decode cX10_take 162 = .ok (.bipush 12, 2) := by decide +kernel
theorem dX10_take_164 : decode cX10_take 164 = .ok (.iload_n 1, 1) := by decide +kernel
theorem dX10_take_165 : decode cX10_take 165 = .ok (.iadd, 1) := by decide +kernel
theorem dX10_take_166 : decode cX10_take 166 = .ok (.aload_n 0, 1) := by decide +kernel
theorem dX10_take_167 : decode cX10_take 167 = .ok (.getfield 29, 3) := by decide +kernel
theorem dX10_take_170 : decode cX10_take 170 = .ok (.iload_n 1, 1) := by decide +kernel
theorem dX10_take_171 : decode cX10_take 171 = .ok (.iaload, 1) := by decide +kernel
theorem dX10_take_172 : decode cX10_take 172 = .ok (.iastore, 1) := by decide +kernel
theorem dX10_take_173 : decode cX10_take 173 = .ok (.iinc 1 1, 3) := by decide +kernel
theorem dX10_take_176 : decode cX10_take 176 = .ok (.goto (-105), 3) := by decide +kernel
theorem dX10_take_179 : decode cX10_take 179 = .ok (.aload_n 0, 1) := by decide +kernel
theorem dX10_take_180 : decode cX10_take 180 = .ok (.getfield 7, 3) := by decide +kernel
theorem dX10_take_183 : decode cX10_take 183 = .ok (.bipush 24, 2) := by decide +kernel
theorem dX10_take_185 : decode cX10_take 185 = .ok (.aload_n 0, 1) := by decide +kernel
theorem dX10_take_186 : decode cX10_take 186 = .ok (.getfield 123, 3) := by decide +kernel
theorem dX10_take_189 : decode cX10_take 189 = .ok (.iastore, 1) := by decide +kernel
theorem dX10_take_190 : decode cX10_take 190 = .ok (.aload_n 0, 1) := by decide +kernel
theorem dX10_take_191 : decode cX10_take 191 = .ok (.iconst 0, 1) := by decide +kernel
theorem dX10_take_192 : decode cX10_take 192 = .ok (.iconst (-1), 1) := by decide +kernel
theorem dX10_take_193 : decode cX10_take 193 = .ok (.iconst (-1), 1) := by decide +kernel
theorem dX10_take_194 : decode cX10_take 194 = .ok (.invokevirtual 153, 3) := by decide +kernel
theorem dX10_take_197 : decode cX10_take 197 = .ok (.aload_n 0, 1) := by decide +kernel
theorem dX10_take_198 : decode cX10_take 198 = .ok (.iconst 0, 1) := by decide +kernel
theorem dX10_take_199 : decode cX10_take 199 = .ok (.putfield 157, 3) := by decide +kernel
theorem dX10_take_202 : decode cX10_take 202 = .ok (.aload_n 0, 1) := by decide +kernel
theorem dX10_take_203 : decode cX10_take 203 = .ok (.iconst 0, 1) := by decide +kernel
theorem dX10_take_204 : decode cX10_take 204 = .ok (.putfield 160, 3) := by decide +kernel
theorem dX10_take_207 : decode cX10_take 207 = .ok (.aload_n 0, 1) := by decide +kernel
theorem dX10_take_208 : decode cX10_take 208 = .ok (.iconst 0, 1) := by decide +kernel
theorem dX10_take_209 : decode cX10_take 209 = .ok (.putfield 163, 3) := by decide +kernel
theorem dX10_take_212 : decode cX10_take 212 = .ok (.aload_n 0, 1) := by decide +kernel
theorem dX10_take_213 : decode cX10_take 213 = .ok (.getfield 13, 3) := by decide +kernel
theorem dX10_take_216 : decode cX10_take 216 = .ok (.iconst 0, 1) := by decide +kernel
theorem dX10_take_217 : decode cX10_take 217 = .ok (.iconst 0, 1) := by decide +kernel
theorem dX10_take_218 : decode cX10_take 218 = .ok (.bastore, 1) := by decide +kernel
theorem dX10_take_219 : decode cX10_take 219 = .ok (.aload_n 0, 1) := by decide +kernel
theorem dX10_take_220 : decode cX10_take 220 = .ok (.getfield 13, 3) := by decide +kernel
theorem dX10_take_223 : decode cX10_take 223 = .ok (.iconst 1, 1) := by decide +kernel
theorem dX10_take_224 : decode cX10_take 224 = .ok (.iconst 0, 1) := by decide +kernel
theorem dX10_take_225 : decode cX10_take 225 = .ok (.bastore, 1) := by decide +kernel
theorem dX10_take_226 : decode cX10_take 226 = .ok (.return_, 1) := by decide +kernel
theorem dX10_begin_0 : decode cX10_begin 0 = .ok (.iconst 0, 1) := by decide +kernel
theorem dX10_begin_1 : decode cX10_begin 1 = .ok (.istore 4, 2) := by decide +kernel
theorem dX10_begin_3 : decode cX10_begin 3 = .ok (.iload 4, 2) := by decide +kernel
theorem dX10_begin_5 : decode cX10_begin 5 = .ok (.iconst 4, 1) := by decide +kernel
theorem dX10_begin_6 : decode cX10_begin 6 = .ok (.if_icmp .ge 34, 3) := by decide +kernel
theorem dX10_begin_9 : decode cX10_begin 9 = .ok (.aload_n 0, 1) := by decide +kernel
theorem dX10_begin_10 : decode cX10_begin 10 = .ok (.getfield 7, 3) := by decide +kernel
theorem dX10_begin_13 : decode cX10_begin 13 = .ok (.iload_n 1, 1) := by decide +kernel
theorem dX10_begin_14 : decode cX10_begin 14 = .ok (.iconst 4, 1) := by decide +kernel
theorem dX10_begin_15 : decode cX10_begin 15 = .ok (.iadd, 1) := by decide +kernel
theorem dX10_begin_16 : decode cX10_begin 16 = .ok (.iload 4, 2) := by decide +kernel
theorem dX10_begin_18 : decode cX10_begin 18 = .ok (.iadd, 1) := by decide +kernel
theorem dX10_begin_19 : decode cX10_begin 19 = .ok (.iconst 0, 1) := by decide +kernel
theorem dX10_begin_20 : decode cX10_begin 20 = .ok (.iastore, 1) := by decide +kernel
theorem dX10_begin_21 : decode cX10_begin 21 = .ok (.aload_n 0, 1) := by decide +kernel
theorem dX10_begin_22 : decode cX10_begin 22 = .ok (.getfield 7, 3) := by decide +kernel
theorem dX10_begin_25 : decode cX10_begin 25 = .ok (.iload_n 1, 1) := by decide +kernel
theorem dX10_begin_26 : decode cX10_begin 26 = .ok (.bipush 8, 2) := by decide +kernel
theorem dX10_begin_28 : decode cX10_begin 28 = .ok (.iadd, 1) := by decide +kernel
theorem dX10_begin_29 : decode cX10_begin 29 = .ok (.iload 4, 2) := by decide +kernel
theorem dX10_begin_31 : decode cX10_begin 31 = .ok (.iadd, 1) := by decide +kernel
theorem dX10_begin_32 : decode cX10_begin 32 = .ok (.iconst 0, 1) := by decide +kernel
theorem dX10_begin_33 : decode cX10_begin 33 = .ok (.iastore, 1) := by decide +kernel
theorem dX10_begin_34 : decode cX10_begin 34 = .ok (.iinc 4 1, 3) := by decide +kernel
theorem dX10_begin_37 : decode cX10_begin 37 = .ok (.goto (-34), 3) := by decide +kernel
theorem dX10_begin_40 : decode cX10_begin 40 = .ok (.aload_n 0, 1) := by decide +kernel
theorem dX10_begin_41 : decode cX10_begin 41 = .ok (.getfield 7, 3) := by decide +kernel
theorem dX10_begin_44 : decode cX10_begin 44 = .ok (.iload_n 1, 1) := by decide +kernel
theorem dX10_begin_45 : decode cX10_begin 45 = .ok (.bipush 16, 2) := by decide +kernel
theorem dX10_begin_47 : decode cX10_begin 47 = .ok (.iadd, 1) := by decide +kernel
theorem dX10_begin_48 : decode cX10_begin 48 = .ok (.iload_n 2, 1) := by decide +kernel
theorem dX10_begin_49 : decode cX10_begin 49 = .ok (.iastore, 1) := by decide +kernel
theorem dX10_begin_50 : decode cX10_begin 50 = .ok (.aload_n 0, 1) := by decide +kernel
theorem dX10_begin_51 : decode cX10_begin 51 = .ok (.getfield 7, 3) := by decide +kernel
theorem dX10_begin_54 : decode cX10_begin 54 = .ok (.iload_n 1, 1) := by decide +kernel
theorem dX10_begin_55 : decode cX10_begin 55 = .ok (.bipush 17, 2) := by decide +kernel
theorem dX10_begin_57 : decode cX10_begin 57 = .ok (.iadd, 1) := by decide +kernel
theorem dX10_begin_58 : decode cX10_begin 58 = .ok (.iload_n 3, 1) := by decide +kernel
theorem dX10_begin_59 : decode cX10_begin 59 = .ok (.iastore, 1) := by decide +kernel
theorem dX10_begin_60 : decode cX10_begin 60 = .ok (.aload_n 0, 1) := by decide +kernel
theorem dX10_begin_61 : decode cX10_begin 61 = .ok (.getfield 7, 3) := by decide +kernel
theorem dX10_begin_64 : decode cX10_begin 64 = .ok (.iload_n 1, 1) := by decide +kernel
theorem dX10_begin_65 : decode cX10_begin 65 = .ok (.bipush 18, 2) := by decide +kernel
theorem dX10_begin_67 : decode cX10_begin 67 = .ok (.iadd, 1) := by decide +kernel
theorem dX10_begin_68 : decode cX10_begin 68 = .ok (.iload_n 2, 1) := by decide +kernel
theorem dX10_begin_69 : decode cX10_begin 69 = .ok (.iastore, 1) := by decide +kernel
theorem dX10_begin_70 : decode cX10_begin 70 = .ok (.aload_n 0, 1) := by decide +kernel
theorem dX10_begin_71 : decode cX10_begin 71 = .ok (.getfield 7, 3) := by decide +kernel
theorem dX10_begin_74 : decode cX10_begin 74 = .ok (.iload_n 1, 1) := by decide +kernel
theorem dX10_begin_75 : decode cX10_begin 75 = .ok (.bipush 19, 2) := by decide +kernel
theorem dX10_begin_77 : decode cX10_begin 77 = .ok (.iadd, 1) := by decide +kernel
theorem dX10_begin_78 : decode cX10_begin 78 = .ok (.iconst 0, 1) := by decide +kernel
theorem dX10_begin_79 : decode cX10_begin 79 = .ok (.iastore, 1) := by decide +kernel
theorem dX10_begin_80 : decode cX10_begin 80 = .ok (.aload_n 0, 1) := by decide +kernel
theorem dX10_begin_81 : decode cX10_begin 81 = .ok (.getfield 7, 3) := by decide +kernel
theorem dX10_begin_84 : decode cX10_begin 84 = .ok (.iload_n 1, 1) := by decide +kernel
theorem dX10_begin_85 : decode cX10_begin 85 = .ok (.bipush 20, 2) := by decide +kernel
theorem dX10_begin_87 : decode cX10_begin 87 = .ok (.iadd, 1) := by decide +kernel
theorem dX10_begin_88 : decode cX10_begin 88 = .ok (.iconst 0, 1) := by decide +kernel
theorem dX10_begin_89 : decode cX10_begin 89 = .ok (.iastore, 1) := by decide +kernel
theorem dX10_begin_90 : decode cX10_begin 90 = .ok (.aload_n 0, 1) := by decide +kernel
theorem dX10_begin_91 : decode cX10_begin 91 = .ok (.getfield 7, 3) := by decide +kernel
theorem dX10_begin_94 : decode cX10_begin 94 = .ok (.iload_n 1, 1) := by decide +kernel
theorem dX10_begin_95 : decode cX10_begin 95 = .ok (.bipush 21, 2) := by decide +kernel
theorem dX10_begin_97 : decode cX10_begin 97 = .ok (.iadd, 1) := by decide +kernel
theorem dX10_begin_98 : decode cX10_begin 98 = .ok (.iconst 0, 1) := by decide +kernel
theorem dX10_begin_99 : decode cX10_begin 99 = .ok (.iastore, 1) := by decide +kernel
theorem dX10_begin_100 : decode cX10_begin 100 = .ok (.aload_n 0, 1) := by decide +kernel
theorem dX10_begin_101 : decode cX10_begin 101 = .ok (.getfield 7, 3) := by decide +kernel
theorem dX10_begin_104 : decode cX10_begin 104 = .ok (.iload_n 1, 1) := by decide +kernel
theorem dX10_begin_105 : decode cX10_begin 105 = .ok (.bipush 22, 2) := by decide +kernel
theorem dX10_begin_107 : decode cX10_begin 107 = .ok (.iadd, 1) := by decide +kernel
theorem dX10_begin_108 : decode cX10_begin 108 = .ok (.iconst 0, 1) := by decide +kernel
theorem dX10_begin_109 : decode cX10_begin 109 = .ok (.iastore, 1) := by decide +kernel
theorem dX10_begin_110 : decode cX10_begin 110 = .ok (.aload_n 0, 1) := by decide +kernel
theorem dX10_begin_111 : decode cX10_begin 111 = .ok (.getfield 7, 3) := by decide +kernel
theorem dX10_begin_114 : decode cX10_begin 114 = .ok (.iload_n 1, 1) := by decide +kernel
theorem dX10_begin_115 : decode cX10_begin 115 = .ok (.bipush 23, 2) := by decide +kernel
theorem dX10_begin_117 : decode cX10_begin 117 = .ok (.iadd, 1) := by decide +kernel
theorem dX10_begin_118 : decode cX10_begin 118 = .ok (.iconst 0, 1) := by decide +kernel
theorem dX10_begin_119 : decode cX10_begin 119 = .ok (.iastore, 1) := by decide +kernel
theorem dX10_begin_120 : decode cX10_begin 120 = .ok (.return_, 1) := by decide +kernel
theorem dX10_fault_0 : decode cX10_fault 0 = .ok (.aload_n 0, 1) := by decide +kernel
theorem dX10_fault_1 : decode cX10_fault 1 = .ok (.getfield 38, 3) := by decide +kernel
theorem dX10_fault_4 : decode cX10_fault 4 = .ok (.ireturn, 1) := by decide +kernel
theorem dX10_isPerson_0 : decode cX10_isPerson 0 = .ok (.iload_n 1, 1) := by decide +kernel
theorem dX10_isPerson_1 : decode cX10_isPerson 1 = .ok (.i2l, 1) := by decide +kernel
theorem dX10_isPerson_2 : decode cX10_isPerson 2 = .ok (.lconst 0, 1) := by decide +kernel
theorem dX10_isPerson_3 : decode cX10_isPerson 3 = .ok (.aload_n 0, 1) := by decide +kernel
theorem dX10_isPerson_4 : decode cX10_isPerson 4 = .ok (.getfield 147, 3) := by decide +kernel
theorem dX10_isPerson_7 : decode cX10_isPerson 7 = .ok (.iconst 1, 1) := by decide +kernel
theorem dX10_isPerson_8 : decode cX10_isPerson 8 = .ok (.isub, 1) := by decide +kernel
theorem dX10_isPerson_9 : decode cX10_isPerson 9 = .ok (.i2l, 1) := by decide +kernel
theorem dX10_isPerson_10 : decode cX10_isPerson 10 = .ok (.invokestatic 68, 3) := by decide +kernel
theorem dX10_isPerson_13 : decode cX10_isPerson 13 = .ok (.ireturn, 1) := by decide +kernel
theorem dX10_isThrough_0 : decode cX10_isThrough 0 = .ok (.aload_n 0, 1) := by decide +kernel
theorem dX10_isThrough_1 : decode cX10_isThrough 1 = .ok (.getfield 7, 3) := by decide +kernel
theorem dX10_isThrough_4 : decode cX10_isThrough 4 = .ok (.iload_n 1, 1) := by decide +kernel
theorem dX10_isThrough_5 : decode cX10_isThrough 5 = .ok (.bipush 19, 2) := by decide +kernel
theorem dX10_isThrough_7 : decode cX10_isThrough 7 = .ok (.iadd, 1) := by decide +kernel
theorem dX10_isThrough_8 : decode cX10_isThrough 8 = .ok (.iaload, 1) := by decide +kernel
theorem dX10_isThrough_9 : decode cX10_isThrough 9 = .ok (.bipush 100, 2) := by decide +kernel
theorem dX10_isThrough_11 : decode cX10_isThrough 11 = .ok (.aload_n 0, 1) := by decide +kernel
theorem dX10_isThrough_12 : decode cX10_isThrough 12 = .ok (.getfield 144, 3) := by decide +kernel
theorem dX10_isThrough_15 : decode cX10_isThrough 15 = .ok (.imul, 1) := by decide +kernel
theorem dX10_isThrough_16 : decode cX10_isThrough 16 = .ok (.if_icmp .lt 7, 3) := by decide +kernel
theorem dX10_isThrough_19 : decode cX10_isThrough 19 = .ok (.iconst 1, 1) := by decide +kernel
theorem dX10_isThrough_20 : decode cX10_isThrough 20 = .ok (.goto 4, 3) := by decide +kernel
theorem dX10_isThrough_23 : decode cX10_isThrough 23 = .ok (.iconst 0, 1) := by decide +kernel
theorem dX10_isThrough_24 : decode cX10_isThrough 24 = .ok (.ireturn, 1) := by decide +kernel
theorem dX10_isPair_0 : decode cX10_isPair 0 = .ok (.aload_n 0, 1) := by decide +kernel
theorem dX10_isPair_1 : decode cX10_isPair 1 = .ok (.getfield 7, 3) := by decide +kernel
theorem dX10_isPair_4 : decode cX10_isPair 4 = .ok (.bipush 16, 2) := by decide +kernel
theorem dX10_isPair_6 : decode cX10_isPair 6 = .ok (.iaload, 1) := by decide +kernel
theorem dX10_isPair_7 : decode cX10_isPair 7 = .ok (.ifCond .lt 7, 3) := by decide +kernel
theorem dX10_isPair_10 : decode cX10_isPair 10 = .ok (.iconst 1, 1) := by decide +kernel
theorem dX10_isPair_11 : decode cX10_isPair 11 = .ok (.goto 4, 3) := by decide +kernel
theorem dX10_isPair_14 : decode cX10_isPair 14 = .ok (.iconst 0, 1) := by decide +kernel
theorem dX10_isPair_15 : decode cX10_isPair 15 = .ok (.ireturn, 1) := by decide +kernel
theorem dX10_told_0 : decode cX10_told 0 = .ok (.iload_n 1, 1) := by decide +kernel
theorem dX10_told_1 : decode cX10_told 1 = .ok (.tableswitch 232 0 18 #[91, 96, 101, 106, 114, 122, 130, 138, 146, 154, 162, 170, 178, 183, 188, 193, 217, 222, 227], 91) := by decide +kernel
theorem dX10_told_92 : decode cX10_told 92 = .ok (.aload_n 0, 1) := by decide +kernel
theorem dX10_told_93 : decode cX10_told 93 = .ok (.getfield 144, 3) := by decide +kernel
theorem dX10_told_96 : decode cX10_told 96 = .ok (.ireturn, 1) := by decide +kernel
theorem dX10_told_97 : decode cX10_told 97 = .ok (.aload_n 0, 1) := by decide +kernel
theorem dX10_told_98 : decode cX10_told 98 = .ok (.getfield 147, 3) := by decide +kernel
theorem dX10_told_101 : decode cX10_told 101 = .ok (.ireturn, 1) := by decide +kernel
theorem dX10_told_102 : decode cX10_told 102 = .ok (.aload_n 0, 1) := by decide +kernel
theorem dX10_told_103 : decode cX10_told 103 = .ok (.getfield 73, 3) := by decide +kernel
theorem dX10_told_106 : decode cX10_told 106 = .ok (.ireturn, 1) := by decide +kernel
theorem dX10_told_107 : decode cX10_told 107 = .ok (.aload_n 0, 1) := by decide +kernel
theorem dX10_told_108 : decode cX10_told 108 = .ok (.getfield 7, 3) := by decide +kernel
theorem dX10_told_111 : decode cX10_told 111 = .ok (.bipush 16, 2) := by decide +kernel
theorem dX10_told_113 : decode cX10_told 113 = .ok (.iaload, 1) := by decide +kernel
theorem dX10_told_114 : decode cX10_told 114 = .ok (.ireturn, 1) := by decide +kernel
theorem dX10_told_115 : decode cX10_told 115 = .ok (.aload_n 0, 1) := by decide +kernel
theorem dX10_told_116 : decode cX10_told 116 = .ok (.getfield 7, 3) := by decide +kernel
theorem dX10_told_119 : decode cX10_told 119 = .ok (.bipush 17, 2) := by decide +kernel
theorem dX10_told_121 : decode cX10_told 121 = .ok (.iaload, 1) := by decide +kernel
theorem dX10_told_122 : decode cX10_told 122 = .ok (.ireturn, 1) := by decide +kernel
theorem dX10_told_123 : decode cX10_told 123 = .ok (.aload_n 0, 1) := by decide +kernel
theorem dX10_told_124 : decode cX10_told 124 = .ok (.getfield 7, 3) := by decide +kernel
theorem dX10_told_127 : decode cX10_told 127 = .ok (.bipush 18, 2) := by decide +kernel
theorem dX10_told_129 : decode cX10_told 129 = .ok (.iaload, 1) := by decide +kernel
theorem dX10_told_130 : decode cX10_told 130 = .ok (.ireturn, 1) := by decide +kernel
theorem dX10_told_131 : decode cX10_told 131 = .ok (.aload_n 0, 1) := by decide +kernel
theorem dX10_told_132 : decode cX10_told 132 = .ok (.getfield 7, 3) := by decide +kernel
theorem dX10_told_135 : decode cX10_told 135 = .ok (.bipush 19, 2) := by decide +kernel
theorem dX10_told_137 : decode cX10_told 137 = .ok (.iaload, 1) := by decide +kernel
theorem dX10_told_138 : decode cX10_told 138 = .ok (.ireturn, 1) := by decide +kernel
theorem dX10_told_139 : decode cX10_told 139 = .ok (.aload_n 0, 1) := by decide +kernel
theorem dX10_told_140 : decode cX10_told 140 = .ok (.getfield 7, 3) := by decide +kernel
theorem dX10_told_143 : decode cX10_told 143 = .ok (.bipush 20, 2) := by decide +kernel
theorem dX10_told_145 : decode cX10_told 145 = .ok (.iaload, 1) := by decide +kernel
theorem dX10_told_146 : decode cX10_told 146 = .ok (.ireturn, 1) := by decide +kernel
theorem dX10_told_147 : decode cX10_told 147 = .ok (.aload_n 0, 1) := by decide +kernel
theorem dX10_told_148 : decode cX10_told 148 = .ok (.getfield 7, 3) := by decide +kernel
theorem dX10_told_151 : decode cX10_told 151 = .ok (.bipush 21, 2) := by decide +kernel
theorem dX10_told_153 : decode cX10_told 153 = .ok (.iaload, 1) := by decide +kernel
theorem dX10_told_154 : decode cX10_told 154 = .ok (.ireturn, 1) := by decide +kernel
theorem dX10_told_155 : decode cX10_told 155 = .ok (.aload_n 0, 1) := by decide +kernel
theorem dX10_told_156 : decode cX10_told 156 = .ok (.getfield 7, 3) := by decide +kernel
theorem dX10_told_159 : decode cX10_told 159 = .ok (.bipush 22, 2) := by decide +kernel
theorem dX10_told_161 : decode cX10_told 161 = .ok (.iaload, 1) := by decide +kernel
theorem dX10_told_162 : decode cX10_told 162 = .ok (.ireturn, 1) := by decide +kernel
theorem dX10_told_163 : decode cX10_told 163 = .ok (.aload_n 0, 1) := by decide +kernel
theorem dX10_told_164 : decode cX10_told 164 = .ok (.getfield 7, 3) := by decide +kernel
theorem dX10_told_167 : decode cX10_told 167 = .ok (.bipush 23, 2) := by decide +kernel
theorem dX10_told_169 : decode cX10_told 169 = .ok (.iaload, 1) := by decide +kernel
theorem dX10_told_170 : decode cX10_told 170 = .ok (.ireturn, 1) := by decide +kernel
theorem dX10_told_171 : decode cX10_told 171 = .ok (.aload_n 0, 1) := by decide +kernel
theorem dX10_told_172 : decode cX10_told 172 = .ok (.getfield 7, 3) := by decide +kernel
theorem dX10_told_175 : decode cX10_told 175 = .ok (.bipush 24, 2) := by decide +kernel
theorem dX10_told_177 : decode cX10_told 177 = .ok (.iaload, 1) := by decide +kernel
theorem dX10_told_178 : decode cX10_told 178 = .ok (.ireturn, 1) := by decide +kernel
theorem dX10_told_179 : decode cX10_told 179 = .ok (.aload_n 0, 1) := by decide +kernel
theorem dX10_told_180 : decode cX10_told 180 = .ok (.getfield 60, 3) := by decide +kernel
theorem dX10_told_183 : decode cX10_told 183 = .ok (.ireturn, 1) := by decide +kernel
theorem dX10_told_184 : decode cX10_told 184 = .ok (.aload_n 0, 1) := by decide +kernel
theorem dX10_told_185 : decode cX10_told 185 = .ok (.getfield 150, 3) := by decide +kernel
theorem dX10_told_188 : decode cX10_told 188 = .ok (.ireturn, 1) := by decide +kernel
theorem dX10_told_189 : decode cX10_told 189 = .ok (.aload_n 0, 1) := by decide +kernel
theorem dX10_told_190 : decode cX10_told 190 = .ok (.getfield 63, 3) := by decide +kernel
theorem dX10_told_193 : decode cX10_told 193 = .ok (.ireturn, 1) := by decide +kernel
theorem dX10_told_194 : decode cX10_told 194 = .ok (.aload_n 0, 1) := by decide +kernel
theorem dX10_told_195 : decode cX10_told 195 = .ok (.getfield 144, 3) := by decide +kernel
theorem dX10_told_198 : decode cX10_told 198 = .ok (.ifCond .le 15, 3) := by decide +kernel
theorem dX10_told_201 : decode cX10_told 201 = .ok (.aload_n 0, 1) := by decide +kernel
theorem dX10_told_202 : decode cX10_told 202 = .ok (.iconst 0, 1) := by decide +kernel
theorem dX10_told_203 : decode cX10_told 203 = .ok (.invokevirtual 166, 3) := by decide +kernel
theorem dX10_told_206 : decode cX10_told 206 = .ok (.ifCond .eq 7, 3) := by decide +kernel
theorem dX10_told_209 : decode cX10_told 209 = .ok (.iconst 1, 1) := by decide +kernel
theorem dX10_told_210 : decode cX10_told 210 = .ok (.goto 4, 3) := by decide +kernel
theorem dX10_told_213 : decode cX10_told 213 = .ok (.iconst 0, 1) := by decide +kernel
theorem dX10_told_214 : decode cX10_told 214 = .ok (.invokestatic 170, 3) := by decide +kernel
theorem dX10_told_217 : decode cX10_told 217 = .ok (.ireturn, 1) := by decide +kernel
theorem dX10_told_218 : decode cX10_told 218 = .ok (.aload_n 0, 1) := by decide +kernel
theorem dX10_told_219 : decode cX10_told 219 = .ok (.getfield 157, 3) := by decide +kernel
theorem dX10_told_222 : decode cX10_told 222 = .ok (.ireturn, 1) := by decide +kernel
theorem dX10_told_223 : decode cX10_told 223 = .ok (.aload_n 0, 1) := by decide +kernel
theorem dX10_told_224 : decode cX10_told 224 = .ok (.getfield 160, 3) := by decide +kernel
theorem dX10_told_227 : decode cX10_told 227 = .ok (.ireturn, 1) := by decide +kernel
theorem dX10_told_228 : decode cX10_told 228 = .ok (.aload_n 0, 1) := by decide +kernel
theorem dX10_told_229 : decode cX10_told 229 = .ok (.getfield 163, 3) := by decide +kernel
theorem dX10_told_232 : decode cX10_told 232 = .ok (.ireturn, 1) := by decide +kernel
theorem dX10_told_233 : decode cX10_told 233 = .ok (.ldc 72, 2) := by decide +kernel
theorem dX10_told_235 : decode cX10_told 235 = .ok (.ireturn, 1) := by decide +kernel
theorem dX10_wood_0 : decode cX10_wood 0 = .ok (.iload_n 1, 1) := by decide +kernel
theorem dX10_wood_1 : decode cX10_wood 1 = .ok (.i2l, 1) := by decide +kernel
theorem dX10_wood_2 : decode cX10_wood 2 = .ok (.lconst 0, 1) := by decide +kernel
theorem dX10_wood_3 : decode cX10_wood 3 = .ok (.aload_n 0, 1) := by decide +kernel
theorem dX10_wood_4 : decode cX10_wood 4 = .ok (.getfield 144, 3) := by decide +kernel
theorem dX10_wood_7 : decode cX10_wood 7 = .ok (.iconst 1, 1) := by decide +kernel
theorem dX10_wood_8 : decode cX10_wood 8 = .ok (.isub, 1) := by decide +kernel
theorem dX10_wood_9 : decode cX10_wood 9 = .ok (.i2l, 1) := by decide +kernel
theorem dX10_wood_10 : decode cX10_wood 10 = .ok (.invokestatic 68, 3) := by decide +kernel
theorem dX10_wood_13 : decode cX10_wood 13 = .ok (.ifCond .eq 12, 3) := by decide +kernel
theorem dX10_wood_16 : decode cX10_wood 16 = .ok (.aload_n 0, 1) := by decide +kernel
theorem dX10_wood_17 : decode cX10_wood 17 = .ok (.getfield 17, 3) := by decide +kernel
theorem dX10_wood_20 : decode cX10_wood 20 = .ok (.iload_n 1, 1) := by decide +kernel
theorem dX10_wood_21 : decode cX10_wood 21 = .ok (.iaload, 1) := by decide +kernel
theorem dX10_wood_22 : decode cX10_wood 22 = .ok (.goto 5, 3) := by decide +kernel
theorem dX10_wood_25 : decode cX10_wood 25 = .ok (.ldc 174, 2) := by decide +kernel
theorem dX10_wood_27 : decode cX10_wood 27 = .ok (.ireturn, 1) := by decide +kernel
theorem dX10_person_0 : decode cX10_person 0 = .ok (.aload_n 0, 1) := by decide +kernel
theorem dX10_person_1 : decode cX10_person 1 = .ok (.iload_n 1, 1) := by decide +kernel
theorem dX10_person_2 : decode cX10_person 2 = .ok (.invokevirtual 175, 3) := by decide +kernel
theorem dX10_person_5 : decode cX10_person 5 = .ok (.ifCond .ne 6, 3) := by decide +kernel
theorem dX10_person_8 : decode cX10_person 8 = .ok (.ldc 174, 2) := by decide +kernel
theorem dX10_person_10 : decode cX10_person 10 = .ok (.ireturn, 1) := by decide +kernel
theorem dX10_person_11 : decode cX10_person 11 = .ok (.iload_n 2, 1) := by decide +kernel
theorem dX10_person_12 : decode cX10_person 12 = .ok (.tableswitch 112 0 7 #[48, 55, 62, 69, 79, 86, 93, 102], 48) := by decide +kernel
theorem dX10_person_60 : decode cX10_person 60 = .ok (.aload_n 0, 1) := by decide +kernel
theorem dX10_person_61 : decode cX10_person 61 = .ok (.getfield 20, 3) := by decide +kernel
theorem dX10_person_64 : decode cX10_person 64 = .ok (.iload_n 1, 1) := by decide +kernel
theorem dX10_person_65 : decode cX10_person 65 = .ok (.iaload, 1) := by decide +kernel
theorem dX10_person_66 : decode cX10_person 66 = .ok (.ireturn, 1) := by decide +kernel
theorem dX10_person_67 : decode cX10_person 67 = .ok (.aload_n 0, 1) := by decide +kernel
theorem dX10_person_68 : decode cX10_person 68 = .ok (.getfield 23, 3) := by decide +kernel
theorem dX10_person_71 : decode cX10_person 71 = .ok (.iload_n 1, 1) := by decide +kernel
theorem dX10_person_72 : decode cX10_person 72 = .ok (.iaload, 1) := by decide +kernel
theorem dX10_person_73 : decode cX10_person 73 = .ok (.ireturn, 1) := by decide +kernel
theorem dX10_person_74 : decode cX10_person 74 = .ok (.aload_n 0, 1) := by decide +kernel
theorem dX10_person_75 : decode cX10_person 75 = .ok (.getfield 26, 3) := by decide +kernel
theorem dX10_person_78 : decode cX10_person 78 = .ok (.iload_n 1, 1) := by decide +kernel
theorem dX10_person_79 : decode cX10_person 79 = .ok (.iaload, 1) := by decide +kernel
theorem dX10_person_80 : decode cX10_person 80 = .ok (.ireturn, 1) := by decide +kernel
theorem dX10_person_81 : decode cX10_person 81 = .ok (.aload_n 0, 1) := by decide +kernel
theorem dX10_person_82 : decode cX10_person 82 = .ok (.getfield 7, 3) := by decide +kernel
theorem dX10_person_85 : decode cX10_person 85 = .ok (.bipush 12, 2) := by decide +kernel
theorem dX10_person_87 : decode cX10_person 87 = .ok (.iload_n 1, 1) := by decide +kernel
theorem dX10_person_88 : decode cX10_person 88 = .ok (.iadd, 1) := by decide +kernel
theorem dX10_person_89 : decode cX10_person 89 = .ok (.iaload, 1) := by decide +kernel
theorem dX10_person_90 : decode cX10_person 90 = .ok (.ireturn, 1) := by decide +kernel
theorem dX10_person_91 : decode cX10_person 91 = .ok (.aload_n 0, 1) := by decide +kernel
theorem dX10_person_92 : decode cX10_person 92 = .ok (.getfield 32, 3) := by decide +kernel
theorem dX10_person_95 : decode cX10_person 95 = .ok (.iload_n 1, 1) := by decide +kernel
theorem dX10_person_96 : decode cX10_person 96 = .ok (.iaload, 1) := by decide +kernel
theorem dX10_person_97 : decode cX10_person 97 = .ok (.ireturn, 1) := by decide +kernel
theorem dX10_person_98 : decode cX10_person 98 = .ok (.aload_n 0, 1) := by decide +kernel
theorem dX10_person_99 : decode cX10_person 99 = .ok (.getfield 7, 3) := by decide +kernel
theorem dX10_person_102 : decode cX10_person 102 = .ok (.iload_n 1, 1) := by decide +kernel
theorem dX10_person_103 : decode cX10_person 103 = .ok (.iaload, 1) := by decide +kernel
theorem dX10_person_104 : decode cX10_person 104 = .ok (.ireturn, 1) := by decide +kernel
theorem dX10_person_105 : decode cX10_person 105 = .ok (.aload_n 0, 1) := by decide +kernel
theorem dX10_person_106 : decode cX10_person 106 = .ok (.getfield 7, 3) := by decide +kernel
theorem dX10_person_109 : decode cX10_person 109 = .ok (.iconst 4, 1) := by decide +kernel
theorem dX10_person_110 : decode cX10_person 110 = .ok (.iload_n 1, 1) := by decide +kernel
theorem dX10_person_111 : decode cX10_person 111 = .ok (.iadd, 1) := by decide +kernel
theorem dX10_person_112 : decode cX10_person 112 = .ok (.iaload, 1) := by decide +kernel
theorem dX10_person_113 : decode cX10_person 113 = .ok (.ireturn, 1) := by decide +kernel
theorem dX10_person_114 : decode cX10_person 114 = .ok (.aload_n 0, 1) := by decide +kernel
theorem dX10_person_115 : decode cX10_person 115 = .ok (.getfield 7, 3) := by decide +kernel
theorem dX10_person_118 : decode cX10_person 118 = .ok (.bipush 8, 2) := by decide +kernel
theorem dX10_person_120 : decode cX10_person 120 = .ok (.iload_n 1, 1) := by decide +kernel
theorem dX10_person_121 : decode cX10_person 121 = .ok (.iadd, 1) := by decide +kernel
theorem dX10_person_122 : decode cX10_person 122 = .ok (.iaload, 1) := by decide +kernel
theorem dX10_person_123 : decode cX10_person 123 = .ok (.ireturn, 1) := by decide +kernel
theorem dX10_person_124 : decode cX10_person 124 = .ok (.ldc 72, 2) := by decide +kernel
theorem dX10_person_126 : decode cX10_person 126 = .ok (.ireturn, 1) := by decide +kernel
theorem dX10_tire_0 : decode cX10_tire 0 = .ok (.aload_n 0, 1) := by decide +kernel
theorem dX10_tire_1 : decode cX10_tire 1 = .ok (.getfield 7, 3) := by decide +kernel
theorem dX10_tire_4 : decode cX10_tire 4 = .ok (.iload_n 1, 1) := by decide +kernel
theorem dX10_tire_5 : decode cX10_tire 5 = .ok (.iaload, 1) := by decide +kernel
theorem dX10_tire_6 : decode cX10_tire 6 = .ok (.iload_n 2, 1) := by decide +kernel
theorem dX10_tire_7 : decode cX10_tire 7 = .ok (.iadd, 1) := by decide +kernel
theorem dX10_tire_8 : decode cX10_tire 8 = .ok (.istore_n 3, 1) := by decide +kernel
theorem dX10_tire_9 : decode cX10_tire 9 = .ok (.aload_n 0, 1) := by decide +kernel
theorem dX10_tire_10 : decode cX10_tire 10 = .ok (.getfield 7, 3) := by decide +kernel
theorem dX10_tire_13 : decode cX10_tire 13 = .ok (.iload_n 1, 1) := by decide +kernel
theorem dX10_tire_14 : decode cX10_tire 14 = .ok (.iload_n 3, 1) := by decide +kernel
theorem dX10_tire_15 : decode cX10_tire 15 = .ok (.sipush 999, 3) := by decide +kernel
theorem dX10_tire_18 : decode cX10_tire 18 = .ok (.if_icmp .le 9, 3) := by decide +kernel
theorem dX10_tire_21 : decode cX10_tire 21 = .ok (.sipush 999, 3) := by decide +kernel
theorem dX10_tire_24 : decode cX10_tire 24 = .ok (.goto 12, 3) := by decide +kernel
theorem dX10_tire_27 : decode cX10_tire 27 = .ok (.iload_n 3, 1) := by decide +kernel
theorem dX10_tire_28 : decode cX10_tire 28 = .ok (.ifCond .ge 7, 3) := by decide +kernel
theorem dX10_tire_31 : decode cX10_tire 31 = .ok (.iconst 0, 1) := by decide +kernel
theorem dX10_tire_32 : decode cX10_tire 32 = .ok (.goto 4, 3) := by decide +kernel
theorem dX10_tire_35 : decode cX10_tire 35 = .ok (.iload_n 3, 1) := by decide +kernel
theorem dX10_tire_36 : decode cX10_tire 36 = .ok (.iastore, 1) := by decide +kernel
theorem dX10_tire_37 : decode cX10_tire 37 = .ok (.return_, 1) := by decide +kernel
theorem dX10_pullOf_0 : decode cX10_pullOf 0 = .ok (.aload_n 0, 1) := by decide +kernel
theorem dX10_pullOf_1 : decode cX10_pullOf 1 = .ok (.getfield 20, 3) := by decide +kernel
theorem dX10_pullOf_4 : decode cX10_pullOf 4 = .ok (.iload_n 2, 1) := by decide +kernel
theorem dX10_pullOf_5 : decode cX10_pullOf 5 = .ok (.iaload, 1) := by decide +kernel
theorem dX10_pullOf_6 : decode cX10_pullOf 6 = .ok (.aload_n 0, 1) := by decide +kernel
theorem dX10_pullOf_7 : decode cX10_pullOf 7 = .ok (.getfield 7, 3) := by decide +kernel
theorem dX10_pullOf_10 : decode cX10_pullOf 10 = .ok (.iload_n 1, 1) := by decide +kernel
theorem dX10_pullOf_11 : decode cX10_pullOf 11 = .ok (.iload_n 2, 1) := by decide +kernel
theorem dX10_pullOf_12 : decode cX10_pullOf 12 = .ok (.iadd, 1) := by decide +kernel
theorem dX10_pullOf_13 : decode cX10_pullOf 13 = .ok (.iaload, 1) := by decide +kernel
theorem dX10_pullOf_14 : decode cX10_pullOf 14 = .ok (.if_icmp .ge 12, 3) := by decide +kernel
theorem dX10_pullOf_17 : decode cX10_pullOf 17 = .ok (.aload_n 0, 1) := by decide +kernel
theorem dX10_pullOf_18 : decode cX10_pullOf 18 = .ok (.getfield 20, 3) := by decide +kernel
theorem dX10_pullOf_21 : decode cX10_pullOf 21 = .ok (.iload_n 2, 1) := by decide +kernel
theorem dX10_pullOf_22 : decode cX10_pullOf 22 = .ok (.iaload, 1) := by decide +kernel
theorem dX10_pullOf_23 : decode cX10_pullOf 23 = .ok (.goto 11, 3) := by decide +kernel
theorem dX10_pullOf_26 : decode cX10_pullOf 26 = .ok (.aload_n 0, 1) := by decide +kernel
theorem dX10_pullOf_27 : decode cX10_pullOf 27 = .ok (.getfield 7, 3) := by decide +kernel
theorem dX10_pullOf_30 : decode cX10_pullOf 30 = .ok (.iload_n 1, 1) := by decide +kernel
theorem dX10_pullOf_31 : decode cX10_pullOf 31 = .ok (.iload_n 2, 1) := by decide +kernel
theorem dX10_pullOf_32 : decode cX10_pullOf 32 = .ok (.iadd, 1) := by decide +kernel
theorem dX10_pullOf_33 : decode cX10_pullOf 33 = .ok (.iaload, 1) := by decide +kernel
theorem dX10_pullOf_34 : decode cX10_pullOf 34 = .ok (.istore 4, 2) := by decide +kernel
theorem dX10_pullOf_36 : decode cX10_pullOf 36 = .ok (.iload 4, 2) := by decide +kernel
theorem dX10_pullOf_38 : decode cX10_pullOf 38 = .ok (.aload_n 0, 1) := by decide +kernel
theorem dX10_pullOf_39 : decode cX10_pullOf 39 = .ok (.getfield 7, 3) := by decide +kernel
theorem dX10_pullOf_42 : decode cX10_pullOf 42 = .ok (.iload_n 1, 1) := by decide +kernel
theorem dX10_pullOf_43 : decode cX10_pullOf 43 = .ok (.bipush 8, 2) := by decide +kernel
theorem dX10_pullOf_45 : decode cX10_pullOf 45 = .ok (.iadd, 1) := by decide +kernel
theorem dX10_pullOf_46 : decode cX10_pullOf 46 = .ok (.iload_n 2, 1) := by decide +kernel
theorem dX10_pullOf_47 : decode cX10_pullOf 47 = .ok (.iadd, 1) := by decide +kernel
theorem dX10_pullOf_48 : decode cX10_pullOf 48 = .ok (.iaload, 1) := by decide +kernel
theorem dX10_pullOf_49 : decode cX10_pullOf 49 = .ok (.iadd, 1) := by decide +kernel
theorem dX10_pullOf_50 : decode cX10_pullOf 50 = .ok (.aload_n 0, 1) := by decide +kernel
theorem dX10_pullOf_51 : decode cX10_pullOf 51 = .ok (.getfield 7, 3) := by decide +kernel
theorem dX10_pullOf_54 : decode cX10_pullOf 54 = .ok (.iload_n 1, 1) := by decide +kernel
theorem dX10_pullOf_55 : decode cX10_pullOf 55 = .ok (.iconst 4, 1) := by decide +kernel
theorem dX10_pullOf_56 : decode cX10_pullOf 56 = .ok (.iadd, 1) := by decide +kernel
theorem dX10_pullOf_57 : decode cX10_pullOf 57 = .ok (.iload_n 2, 1) := by decide +kernel
theorem dX10_pullOf_58 : decode cX10_pullOf 58 = .ok (.iadd, 1) := by decide +kernel
theorem dX10_pullOf_59 : decode cX10_pullOf 59 = .ok (.iaload, 1) := by decide +kernel
theorem dX10_pullOf_60 : decode cX10_pullOf 60 = .ok (.bipush 10, 2) := by decide +kernel
theorem dX10_pullOf_62 : decode cX10_pullOf 62 = .ok (.idiv, 1) := by decide +kernel
theorem dX10_pullOf_63 : decode cX10_pullOf 63 = .ok (.isub, 1) := by decide +kernel
theorem dX10_pullOf_64 : decode cX10_pullOf 64 = .ok (.istore 5, 2) := by decide +kernel
theorem dX10_pullOf_66 : decode cX10_pullOf 66 = .ok (.iload 5, 2) := by decide +kernel
theorem dX10_pullOf_68 : decode cX10_pullOf 68 = .ok (.ifCond .ge 7, 3) := by decide +kernel
theorem dX10_pullOf_71 : decode cX10_pullOf 71 = .ok (.iconst 0, 1) := by decide +kernel
theorem dX10_pullOf_72 : decode cX10_pullOf 72 = .ok (.goto 5, 3) := by decide +kernel
theorem dX10_pullOf_75 : decode cX10_pullOf 75 = .ok (.iload 5, 2) := by decide +kernel
theorem dX10_pullOf_77 : decode cX10_pullOf 77 = .ok (.istore 5, 2) := by decide +kernel
theorem dX10_pullOf_79 : decode cX10_pullOf 79 = .ok (.aload_n 0, 1) := by decide +kernel
theorem dX10_pullOf_80 : decode cX10_pullOf 80 = .ok (.getfield 7, 3) := by decide +kernel
theorem dX10_pullOf_83 : decode cX10_pullOf 83 = .ok (.iload_n 1, 1) := by decide +kernel
theorem dX10_pullOf_84 : decode cX10_pullOf 84 = .ok (.bipush 12, 2) := by decide +kernel
theorem dX10_pullOf_86 : decode cX10_pullOf 86 = .ok (.iadd, 1) := by decide +kernel
theorem dX10_pullOf_87 : decode cX10_pullOf 87 = .ok (.iload_n 3, 1) := by decide +kernel
theorem dX10_pullOf_88 : decode cX10_pullOf 88 = .ok (.iadd, 1) := by decide +kernel
theorem dX10_pullOf_89 : decode cX10_pullOf 89 = .ok (.iaload, 1) := by decide +kernel
theorem dX10_pullOf_90 : decode cX10_pullOf 90 = .ok (.istore 6, 2) := by decide +kernel
theorem dX10_pullOf_92 : decode cX10_pullOf 92 = .ok (.iload 6, 2) := by decide +kernel
theorem dX10_pullOf_94 : decode cX10_pullOf 94 = .ok (.iconst 5, 1) := by decide +kernel
theorem dX10_pullOf_95 : decode cX10_pullOf 95 = .ok (.if_icmp .ge 13, 3) := by decide +kernel
theorem dX10_pullOf_98 : decode cX10_pullOf 98 = .ok (.iload 5, 2) := by decide +kernel
theorem dX10_pullOf_100 : decode cX10_pullOf 100 = .ok (.iload 6, 2) := by decide +kernel
theorem dX10_pullOf_102 : decode cX10_pullOf 102 = .ok (.isub, 1) := by decide +kernel
theorem dX10_pullOf_103 : decode cX10_pullOf 103 = .ok (.istore 5, 2) := by decide +kernel
theorem dX10_pullOf_105 : decode cX10_pullOf 105 = .ok (.goto 61, 3) := by decide +kernel
theorem dX10_pullOf_108 : decode cX10_pullOf 108 = .ok (.iload 6, 2) := by decide +kernel
theorem dX10_pullOf_110 : decode cX10_pullOf 110 = .ok (.iconst 5, 1) := by decide +kernel
theorem dX10_pullOf_111 : decode cX10_pullOf 111 = .ok (.if_icmp .le 26, 3) := by decide +kernel
theorem dX10_pullOf_114 : decode cX10_pullOf 114 = .ok (.iload 6, 2) := by decide +kernel
theorem dX10_pullOf_116 : decode cX10_pullOf 116 = .ok (.iconst 5, 1) := by decide +kernel
theorem dX10_pullOf_117 : decode cX10_pullOf 117 = .ok (.isub, 1) := by decide +kernel
theorem dX10_pullOf_118 : decode cX10_pullOf 118 = .ok (.aload_n 0, 1) := by decide +kernel
theorem dX10_pullOf_119 : decode cX10_pullOf 119 = .ok (.getfield 60, 3) := by decide +kernel
theorem dX10_pullOf_122 : decode cX10_pullOf 122 = .ok (.if_icmp .gt 15, 3) := by decide +kernel
theorem dX10_pullOf_125 : decode cX10_pullOf 125 = .ok (.iload 5, 2) := by decide +kernel
theorem dX10_pullOf_127 : decode cX10_pullOf 127 = .ok (.iload 5, 2) := by decide +kernel
theorem dX10_pullOf_129 : decode cX10_pullOf 129 = .ok (.iconst 2, 1) := by decide +kernel
theorem dX10_pullOf_130 : decode cX10_pullOf 130 = .ok (.idiv, 1) := by decide +kernel
theorem dX10_pullOf_131 : decode cX10_pullOf 131 = .ok (.iadd, 1) := by decide +kernel
theorem dX10_pullOf_132 : decode cX10_pullOf 132 = .ok (.istore 5, 2) := by decide +kernel
theorem dX10_pullOf_134 : decode cX10_pullOf 134 = .ok (.goto 32, 3) := by decide +kernel
theorem dX10_pullOf_137 : decode cX10_pullOf 137 = .ok (.iload 6, 2) := by decide +kernel
theorem dX10_pullOf_139 : decode cX10_pullOf 139 = .ok (.iconst 5, 1) := by decide +kernel
theorem dX10_pullOf_140 : decode cX10_pullOf 140 = .ok (.if_icmp .le 26, 3) := by decide +kernel
theorem dX10_pullOf_143 : decode cX10_pullOf 143 = .ok (.iconst 0, 1) := by decide +kernel
theorem dX10_pullOf_144 : decode cX10_pullOf 144 = .ok (.istore 5, 2) := by decide +kernel
theorem dX10_pullOf_146 : decode cX10_pullOf 146 = .ok (.aload_n 0, 1) := by decide +kernel
theorem dX10_pullOf_147 : decode cX10_pullOf 147 = .ok (.iload_n 1, 1) := by decide +kernel
theorem dX10_pullOf_148 : decode cX10_pullOf 148 = .ok (.iconst 4, 1) := by decide +kernel
theorem dX10_pullOf_149 : decode cX10_pullOf 149 = .ok (.iadd, 1) := by decide +kernel
theorem dX10_pullOf_150 : decode cX10_pullOf 150 = .ok (.iload_n 2, 1) := by decide +kernel
theorem dX10_pullOf_151 : decode cX10_pullOf 151 = .ok (.iadd, 1) := by decide +kernel
theorem dX10_pullOf_152 : decode cX10_pullOf 152 = .ok (.iconst 2, 1) := by decide +kernel
theorem dX10_pullOf_153 : decode cX10_pullOf 153 = .ok (.invokevirtual 178, 3) := by decide +kernel
theorem dX10_pullOf_156 : decode cX10_pullOf 156 = .ok (.aload_n 0, 1) := by decide +kernel
theorem dX10_pullOf_157 : decode cX10_pullOf 157 = .ok (.iload_n 1, 1) := by decide +kernel
theorem dX10_pullOf_158 : decode cX10_pullOf 158 = .ok (.iconst 4, 1) := by decide +kernel
theorem dX10_pullOf_159 : decode cX10_pullOf 159 = .ok (.iadd, 1) := by decide +kernel
theorem dX10_pullOf_160 : decode cX10_pullOf 160 = .ok (.iload_n 3, 1) := by decide +kernel
theorem dX10_pullOf_161 : decode cX10_pullOf 161 = .ok (.iadd, 1) := by decide +kernel
theorem dX10_pullOf_162 : decode cX10_pullOf 162 = .ok (.iconst 2, 1) := by decide +kernel
theorem dX10_pullOf_163 : decode cX10_pullOf 163 = .ok (.invokevirtual 178, 3) := by decide +kernel
theorem dX10_pullOf_166 : decode cX10_pullOf 166 = .ok (.iload 5, 2) := by decide +kernel
theorem dX10_pullOf_168 : decode cX10_pullOf 168 = .ok (.aload_n 0, 1) := by decide +kernel
theorem dX10_pullOf_169 : decode cX10_pullOf 169 = .ok (.getfield 7, 3) := by decide +kernel
theorem dX10_pullOf_172 : decode cX10_pullOf 172 = .ok (.iload_n 1, 1) := by decide +kernel
theorem dX10_pullOf_173 : decode cX10_pullOf 173 = .ok (.bipush 22, 2) := by decide +kernel
theorem dX10_pullOf_175 : decode cX10_pullOf 175 = .ok (.iadd, 1) := by decide +kernel
theorem dX10_pullOf_176 : decode cX10_pullOf 176 = .ok (.iaload, 1) := by decide +kernel
theorem dX10_pullOf_177 : decode cX10_pullOf 177 = .ok (.bipush 10, 2) := by decide +kernel
theorem dX10_pullOf_179 : decode cX10_pullOf 179 = .ok (.idiv, 1) := by decide +kernel
theorem dX10_pullOf_180 : decode cX10_pullOf 180 = .ok (.isub, 1) := by decide +kernel
theorem dX10_pullOf_181 : decode cX10_pullOf 181 = .ok (.istore 5, 2) := by decide +kernel
theorem dX10_pullOf_183 : decode cX10_pullOf 183 = .ok (.aload_n 0, 1) := by decide +kernel
theorem dX10_pullOf_184 : decode cX10_pullOf 184 = .ok (.getfield 7, 3) := by decide +kernel
theorem dX10_pullOf_187 : decode cX10_pullOf 187 = .ok (.iload_n 1, 1) := by decide +kernel
theorem dX10_pullOf_188 : decode cX10_pullOf 188 = .ok (.bipush 19, 2) := by decide +kernel
theorem dX10_pullOf_190 : decode cX10_pullOf 190 = .ok (.iadd, 1) := by decide +kernel
theorem dX10_pullOf_191 : decode cX10_pullOf 191 = .ok (.iaload, 1) := by decide +kernel
theorem dX10_pullOf_192 : decode cX10_pullOf 192 = .ok (.bipush 100, 2) := by decide +kernel
theorem dX10_pullOf_194 : decode cX10_pullOf 194 = .ok (.idiv, 1) := by decide +kernel
theorem dX10_pullOf_195 : decode cX10_pullOf 195 = .ok (.aload_n 0, 1) := by decide +kernel
theorem dX10_pullOf_196 : decode cX10_pullOf 196 = .ok (.getfield 63, 3) := by decide +kernel
theorem dX10_pullOf_199 : decode cX10_pullOf 199 = .ok (.if_icmp .lt 22, 3) := by decide +kernel
theorem dX10_pullOf_202 : decode cX10_pullOf 202 = .ok (.aload_n 0, 1) := by decide +kernel
theorem dX10_pullOf_203 : decode cX10_pullOf 203 = .ok (.getfield 7, 3) := by decide +kernel
theorem dX10_pullOf_206 : decode cX10_pullOf 206 = .ok (.iload_n 1, 1) := by decide +kernel
theorem dX10_pullOf_207 : decode cX10_pullOf 207 = .ok (.bipush 23, 2) := by decide +kernel
theorem dX10_pullOf_209 : decode cX10_pullOf 209 = .ok (.iadd, 1) := by decide +kernel
theorem dX10_pullOf_210 : decode cX10_pullOf 210 = .ok (.iaload, 1) := by decide +kernel
theorem dX10_pullOf_211 : decode cX10_pullOf 211 = .ok (.ifCond .ne 10, 3) := by decide +kernel
theorem dX10_pullOf_214 : decode cX10_pullOf 214 = .ok (.iload 5, 2) := by decide +kernel
theorem dX10_pullOf_216 : decode cX10_pullOf 216 = .ok (.iconst 2, 1) := by decide +kernel
theorem dX10_pullOf_217 : decode cX10_pullOf 217 = .ok (.idiv, 1) := by decide +kernel
theorem dX10_pullOf_218 : decode cX10_pullOf 218 = .ok (.goto 5, 3) := by decide +kernel
theorem dX10_pullOf_221 : decode cX10_pullOf 221 = .ok (.iload 5, 2) := by decide +kernel
theorem dX10_pullOf_223 : decode cX10_pullOf 223 = .ok (.istore 5, 2) := by decide +kernel
theorem dX10_pullOf_225 : decode cX10_pullOf 225 = .ok (.iload 5, 2) := by decide +kernel
theorem dX10_pullOf_227 : decode cX10_pullOf 227 = .ok (.ifCond .ge 7, 3) := by decide +kernel
theorem dX10_pullOf_230 : decode cX10_pullOf 230 = .ok (.iconst 0, 1) := by decide +kernel
theorem dX10_pullOf_231 : decode cX10_pullOf 231 = .ok (.goto 5, 3) := by decide +kernel
theorem dX10_pullOf_234 : decode cX10_pullOf 234 = .ok (.iload 5, 2) := by decide +kernel
theorem dX10_pullOf_236 : decode cX10_pullOf 236 = .ok (.ireturn, 1) := by decide +kernel
theorem dX10_feel_0 : decode cX10_feel 0 = .ok (.aload_n 0, 1) := by decide +kernel
theorem dX10_feel_1 : decode cX10_feel 1 = .ok (.getfield 7, 3) := by decide +kernel
theorem dX10_feel_4 : decode cX10_feel 4 = .ok (.iload_n 1, 1) := by decide +kernel
theorem dX10_feel_5 : decode cX10_feel 5 = .ok (.bipush 12, 2) := by decide +kernel
theorem dX10_feel_7 : decode cX10_feel 7 = .ok (.iadd, 1) := by decide +kernel
theorem dX10_feel_8 : decode cX10_feel 8 = .ok (.iload_n 3, 1) := by decide +kernel
theorem dX10_feel_9 : decode cX10_feel 9 = .ok (.iadd, 1) := by decide +kernel
theorem dX10_feel_10 : decode cX10_feel 10 = .ok (.iaload, 1) := by decide +kernel
theorem dX10_feel_11 : decode cX10_feel 11 = .ok (.i2l, 1) := by decide +kernel
theorem dX10_feel_12 : decode cX10_feel 12 = .ok (.lconst 1, 1) := by decide +kernel
theorem dX10_feel_13 : decode cX10_feel 13 = .ok (.ldc2_w 182, 3) := by decide +kernel
theorem dX10_feel_16 : decode cX10_feel 16 = .ok (.invokestatic 68, 3) := by decide +kernel
theorem dX10_feel_19 : decode cX10_feel 19 = .ok (.istore 4, 2) := by decide +kernel
theorem dX10_feel_21 : decode cX10_feel 21 = .ok (.aload_n 0, 1) := by decide +kernel
theorem dX10_feel_22 : decode cX10_feel 22 = .ok (.getfield 7, 3) := by decide +kernel
theorem dX10_feel_25 : decode cX10_feel 25 = .ok (.iload_n 1, 1) := by decide +kernel
theorem dX10_feel_26 : decode cX10_feel 26 = .ok (.bipush 8, 2) := by decide +kernel
theorem dX10_feel_28 : decode cX10_feel 28 = .ok (.iadd, 1) := by decide +kernel
theorem dX10_feel_29 : decode cX10_feel 29 = .ok (.iload_n 2, 1) := by decide +kernel
theorem dX10_feel_30 : decode cX10_feel 30 = .ok (.iadd, 1) := by decide +kernel
theorem dX10_feel_31 : decode cX10_feel 31 = .ok (.iaload, 1) := by decide +kernel
theorem dX10_feel_32 : decode cX10_feel 32 = .ok (.istore 5, 2) := by decide +kernel
theorem dX10_feel_34 : decode cX10_feel 34 = .ok (.iload 4, 2) := by decide +kernel
theorem dX10_feel_36 : decode cX10_feel 36 = .ok (.ifCond .eq 40, 3) := by decide +kernel
theorem dX10_feel_39 : decode cX10_feel 39 = .ok (.iload 5, 2) := by decide +kernel
theorem dX10_feel_41 : decode cX10_feel 41 = .ok (.aload_n 0, 1) := by decide +kernel
theorem dX10_feel_42 : decode cX10_feel 42 = .ok (.getfield 32, 3) := by decide +kernel
theorem dX10_feel_45 : decode cX10_feel 45 = .ok (.iload_n 2, 1) := by decide +kernel
theorem dX10_feel_46 : decode cX10_feel 46 = .ok (.iaload, 1) := by decide +kernel
theorem dX10_feel_47 : decode cX10_feel 47 = .ok (.iconst 1, 1) := by decide +kernel
theorem dX10_feel_48 : decode cX10_feel 48 = .ok (.if_icmp .ne 7, 3) := by decide +kernel
theorem dX10_feel_51 : decode cX10_feel 51 = .ok (.iconst 1, 1) := by decide +kernel
theorem dX10_feel_52 : decode cX10_feel 52 = .ok (.goto 18, 3) := by decide +kernel
theorem dX10_feel_55 : decode cX10_feel 55 = .ok (.aload_n 0, 1) := by decide +kernel
theorem dX10_feel_56 : decode cX10_feel 56 = .ok (.getfield 32, 3) := by decide +kernel
theorem dX10_feel_59 : decode cX10_feel 59 = .ok (.iload_n 2, 1) := by decide +kernel
theorem dX10_feel_60 : decode cX10_feel 60 = .ok (.iaload, 1) := by decide +kernel
theorem dX10_feel_61 : decode cX10_feel 61 = .ok (.iconst 2, 1) := by decide +kernel
theorem dX10_feel_62 : decode cX10_feel 62 = .ok (.if_icmp .ne 7, 3) := by decide +kernel
theorem dX10_feel_65 : decode cX10_feel 65 = .ok (.iconst (-1), 1) := by decide +kernel
theorem dX10_feel_66 : decode cX10_feel 66 = .ok (.goto 4, 3) := by decide +kernel
theorem dX10_feel_69 : decode cX10_feel 69 = .ok (.iconst 0, 1) := by decide +kernel
theorem dX10_feel_70 : decode cX10_feel 70 = .ok (.iadd, 1) := by decide +kernel
theorem dX10_feel_71 : decode cX10_feel 71 = .ok (.istore 5, 2) := by decide +kernel
theorem dX10_feel_73 : decode cX10_feel 73 = .ok (.goto 27, 3) := by decide +kernel
theorem dX10_feel_76 : decode cX10_feel 76 = .ok (.iload 5, 2) := by decide +kernel
theorem dX10_feel_78 : decode cX10_feel 78 = .ok (.iload 5, 2) := by decide +kernel
theorem dX10_feel_80 : decode cX10_feel 80 = .ok (.ifCond .le 7, 3) := by decide +kernel
theorem dX10_feel_83 : decode cX10_feel 83 = .ok (.iconst (-1), 1) := by decide +kernel
theorem dX10_feel_84 : decode cX10_feel 84 = .ok (.goto 13, 3) := by decide +kernel
theorem dX10_feel_87 : decode cX10_feel 87 = .ok (.iload 5, 2) := by decide +kernel
theorem dX10_feel_89 : decode cX10_feel 89 = .ok (.ifCond .ge 7, 3) := by decide +kernel
theorem dX10_feel_92 : decode cX10_feel 92 = .ok (.iconst 1, 1) := by decide +kernel
theorem dX10_feel_93 : decode cX10_feel 93 = .ok (.goto 4, 3) := by decide +kernel
theorem dX10_feel_96 : decode cX10_feel 96 = .ok (.iconst 0, 1) := by decide +kernel
theorem dX10_feel_97 : decode cX10_feel 97 = .ok (.iadd, 1) := by decide +kernel
theorem dX10_feel_98 : decode cX10_feel 98 = .ok (.istore 5, 2) := by decide +kernel
theorem dX10_feel_100 : decode cX10_feel 100 = .ok (.aload_n 0, 1) := by decide +kernel
theorem dX10_feel_101 : decode cX10_feel 101 = .ok (.getfield 7, 3) := by decide +kernel
theorem dX10_feel_104 : decode cX10_feel 104 = .ok (.iload_n 1, 1) := by decide +kernel
theorem dX10_feel_105 : decode cX10_feel 105 = .ok (.bipush 8, 2) := by decide +kernel
theorem dX10_feel_107 : decode cX10_feel 107 = .ok (.iadd, 1) := by decide +kernel
theorem dX10_feel_108 : decode cX10_feel 108 = .ok (.iload_n 2, 1) := by decide +kernel
theorem dX10_feel_109 : decode cX10_feel 109 = .ok (.iadd, 1) := by decide +kernel
theorem dX10_feel_110 : decode cX10_feel 110 = .ok (.iload 5, 2) := by decide +kernel
theorem dX10_feel_112 : decode cX10_feel 112 = .ok (.bipush 9, 2) := by decide +kernel
theorem dX10_feel_114 : decode cX10_feel 114 = .ok (.if_icmp .le 8, 3) := by decide +kernel
theorem dX10_feel_117 : decode cX10_feel 117 = .ok (.bipush 9, 2) := by decide +kernel
theorem dX10_feel_119 : decode cX10_feel 119 = .ok (.goto 17, 3) := by decide +kernel
theorem dX10_feel_122 : decode cX10_feel 122 = .ok (.iload 5, 2) := by decide +kernel
theorem dX10_feel_124 : decode cX10_feel 124 = .ok (.bipush (-9), 2) := by decide +kernel
theorem dX10_feel_126 : decode cX10_feel 126 = .ok (.if_icmp .ge 8, 3) := by decide +kernel
theorem dX10_feel_129 : decode cX10_feel 129 = .ok (.bipush (-9), 2) := by decide +kernel
theorem dX10_feel_131 : decode cX10_feel 131 = .ok (.goto 5, 3) := by decide +kernel
theorem dX10_feel_134 : decode cX10_feel 134 = .ok (.iload 5, 2) := by decide +kernel
theorem dX10_feel_136 : decode cX10_feel 136 = .ok (.iastore, 1) := by decide +kernel
theorem dX10_feel_137 : decode cX10_feel 137 = .ok (.return_, 1) := by decide +kernel
theorem dX10_pull_0 : decode cX10_pull 0 = .ok (.aload_n 0, 1) := by decide +kernel
theorem dX10_pull_1 : decode cX10_pull 1 = .ok (.getfield 7, 3) := by decide +kernel
theorem dX10_pull_4 : decode cX10_pull 4 = .ok (.iload_n 1, 1) := by decide +kernel
theorem dX10_pull_5 : decode cX10_pull 5 = .ok (.bipush 18, 2) := by decide +kernel
theorem dX10_pull_7 : decode cX10_pull 7 = .ok (.iadd, 1) := by decide +kernel
theorem dX10_pull_8 : decode cX10_pull 8 = .ok (.iaload, 1) := by decide +kernel
theorem dX10_pull_9 : decode cX10_pull 9 = .ok (.istore_n 2, 1) := by decide +kernel
theorem dX10_pull_10 : decode cX10_pull 10 = .ok (.iload_n 2, 1) := by decide +kernel
theorem dX10_pull_11 : decode cX10_pull 11 = .ok (.aload_n 0, 1) := by decide +kernel
theorem dX10_pull_12 : decode cX10_pull 12 = .ok (.getfield 7, 3) := by decide +kernel
theorem dX10_pull_15 : decode cX10_pull 15 = .ok (.iload_n 1, 1) := by decide +kernel
theorem dX10_pull_16 : decode cX10_pull 16 = .ok (.bipush 16, 2) := by decide +kernel
theorem dX10_pull_18 : decode cX10_pull 18 = .ok (.iadd, 1) := by decide +kernel
theorem dX10_pull_19 : decode cX10_pull 19 = .ok (.iaload, 1) := by decide +kernel
theorem dX10_pull_20 : decode cX10_pull 20 = .ok (.if_icmp .ne 15, 3) := by decide +kernel
theorem dX10_pull_23 : decode cX10_pull 23 = .ok (.aload_n 0, 1) := by decide +kernel
theorem dX10_pull_24 : decode cX10_pull 24 = .ok (.getfield 7, 3) := by decide +kernel
theorem dX10_pull_27 : decode cX10_pull 27 = .ok (.iload_n 1, 1) := by decide +kernel
theorem dX10_pull_28 : decode cX10_pull 28 = .ok (.bipush 17, 2) := by decide +kernel
theorem dX10_pull_30 : decode cX10_pull 30 = .ok (.iadd, 1) := by decide +kernel
theorem dX10_pull_31 : decode cX10_pull 31 = .ok (.iaload, 1) := by decide +kernel
theorem dX10_pull_32 : decode cX10_pull 32 = .ok (.goto 12, 3) := by decide +kernel
theorem dX10_pull_35 : decode cX10_pull 35 = .ok (.aload_n 0, 1) := by decide +kernel
theorem dX10_pull_36 : decode cX10_pull 36 = .ok (.getfield 7, 3) := by decide +kernel
theorem dX10_pull_39 : decode cX10_pull 39 = .ok (.iload_n 1, 1) := by decide +kernel
theorem dX10_pull_40 : decode cX10_pull 40 = .ok (.bipush 16, 2) := by decide +kernel
theorem dX10_pull_42 : decode cX10_pull 42 = .ok (.iadd, 1) := by decide +kernel
theorem dX10_pull_43 : decode cX10_pull 43 = .ok (.iaload, 1) := by decide +kernel
theorem dX10_pull_44 : decode cX10_pull 44 = .ok (.istore_n 3, 1) := by decide +kernel
theorem dX10_pull_45 : decode cX10_pull 45 = .ok (.aload_n 0, 1) := by decide +kernel
theorem dX10_pull_46 : decode cX10_pull 46 = .ok (.iload_n 1, 1) := by decide +kernel
theorem dX10_pull_47 : decode cX10_pull 47 = .ok (.iload_n 2, 1) := by decide +kernel
theorem dX10_pull_48 : decode cX10_pull 48 = .ok (.iload_n 3, 1) := by decide +kernel
theorem dX10_pull_49 : decode cX10_pull 49 = .ok (.invokevirtual 184, 3) := by decide +kernel
theorem dX10_pull_52 : decode cX10_pull 52 = .ok (.aload_n 0, 1) := by decide +kernel
theorem dX10_pull_53 : decode cX10_pull 53 = .ok (.getfield 7, 3) := by decide +kernel
theorem dX10_pull_56 : decode cX10_pull 56 = .ok (.iload_n 1, 1) := by decide +kernel
theorem dX10_pull_57 : decode cX10_pull 57 = .ok (.bipush 24, 2) := by decide +kernel
theorem dX10_pull_59 : decode cX10_pull 59 = .ok (.iadd, 1) := by decide +kernel
theorem dX10_pull_60 : decode cX10_pull 60 = .ok (.iaload, 1) := by decide +kernel
theorem dX10_pull_61 : decode cX10_pull 61 = .ok (.imul, 1) := by decide +kernel
theorem dX10_pull_62 : decode cX10_pull 62 = .ok (.aload_n 0, 1) := by decide +kernel
theorem dX10_pull_63 : decode cX10_pull 63 = .ok (.getfield 17, 3) := by decide +kernel
theorem dX10_pull_66 : decode cX10_pull 66 = .ok (.aload_n 0, 1) := by decide +kernel
theorem dX10_pull_67 : decode cX10_pull 67 = .ok (.getfield 7, 3) := by decide +kernel
theorem dX10_pull_70 : decode cX10_pull 70 = .ok (.iload_n 1, 1) := by decide +kernel
theorem dX10_pull_71 : decode cX10_pull 71 = .ok (.bipush 19, 2) := by decide +kernel
theorem dX10_pull_73 : decode cX10_pull 73 = .ok (.iadd, 1) := by decide +kernel
theorem dX10_pull_74 : decode cX10_pull 74 = .ok (.iaload, 1) := by decide +kernel
theorem dX10_pull_75 : decode cX10_pull 75 = .ok (.bipush 100, 2) := by decide +kernel
theorem dX10_pull_77 : decode cX10_pull 77 = .ok (.idiv, 1) := by decide +kernel
theorem dX10_pull_78 : decode cX10_pull 78 = .ok (.iaload, 1) := by decide +kernel
theorem dX10_pull_79 : decode cX10_pull 79 = .ok (.idiv, 1) := by decide +kernel
theorem dX10_pull_80 : decode cX10_pull 80 = .ok (.istore 4, 2) := by decide +kernel
theorem dX10_pull_82 : decode cX10_pull 82 = .ok (.aload_n 0, 1) := by decide +kernel
theorem dX10_pull_83 : decode cX10_pull 83 = .ok (.getfield 7, 3) := by decide +kernel
theorem dX10_pull_86 : decode cX10_pull 86 = .ok (.iload_n 1, 1) := by decide +kernel
theorem dX10_pull_87 : decode cX10_pull 87 = .ok (.bipush 19, 2) := by decide +kernel
theorem dX10_pull_89 : decode cX10_pull 89 = .ok (.iadd, 1) := by decide +kernel
theorem dX10_pull_90 : decode cX10_pull 90 = .ok (.iaload, 1) := by decide +kernel
theorem dX10_pull_91 : decode cX10_pull 91 = .ok (.iload 4, 2) := by decide +kernel
theorem dX10_pull_93 : decode cX10_pull 93 = .ok (.iadd, 1) := by decide +kernel
theorem dX10_pull_94 : decode cX10_pull 94 = .ok (.istore 5, 2) := by decide +kernel
theorem dX10_pull_96 : decode cX10_pull 96 = .ok (.aload_n 0, 1) := by decide +kernel
theorem dX10_pull_97 : decode cX10_pull 97 = .ok (.getfield 7, 3) := by decide +kernel
theorem dX10_pull_100 : decode cX10_pull 100 = .ok (.iload_n 1, 1) := by decide +kernel
theorem dX10_pull_101 : decode cX10_pull 101 = .ok (.bipush 19, 2) := by decide +kernel
theorem dX10_pull_103 : decode cX10_pull 103 = .ok (.iadd, 1) := by decide +kernel
theorem dX10_pull_104 : decode cX10_pull 104 = .ok (.iload 5, 2) := by decide +kernel
theorem dX10_pull_106 : decode cX10_pull 106 = .ok (.bipush 100, 2) := by decide +kernel
theorem dX10_pull_108 : decode cX10_pull 108 = .ok (.aload_n 0, 1) := by decide +kernel
theorem dX10_pull_109 : decode cX10_pull 109 = .ok (.getfield 144, 3) := by decide +kernel
theorem dX10_pull_112 : decode cX10_pull 112 = .ok (.imul, 1) := by decide +kernel
theorem dX10_pull_113 : decode cX10_pull 113 = .ok (.if_icmp .le 13, 3) := by decide +kernel
theorem dX10_pull_116 : decode cX10_pull 116 = .ok (.bipush 100, 2) := by decide +kernel
theorem dX10_pull_118 : decode cX10_pull 118 = .ok (.aload_n 0, 1) := by decide +kernel
theorem dX10_pull_119 : decode cX10_pull 119 = .ok (.getfield 144, 3) := by decide +kernel
theorem dX10_pull_122 : decode cX10_pull 122 = .ok (.imul, 1) := by decide +kernel
theorem dX10_pull_123 : decode cX10_pull 123 = .ok (.goto 5, 3) := by decide +kernel
theorem dX10_pull_126 : decode cX10_pull 126 = .ok (.iload 5, 2) := by decide +kernel
theorem dX10_pull_128 : decode cX10_pull 128 = .ok (.iastore, 1) := by decide +kernel
theorem dX10_pull_129 : decode cX10_pull 129 = .ok (.aload_n 0, 1) := by decide +kernel
theorem dX10_pull_130 : decode cX10_pull 130 = .ok (.getfield 7, 3) := by decide +kernel
theorem dX10_pull_133 : decode cX10_pull 133 = .ok (.iload_n 1, 1) := by decide +kernel
theorem dX10_pull_134 : decode cX10_pull 134 = .ok (.bipush 22, 2) := by decide +kernel
theorem dX10_pull_136 : decode cX10_pull 136 = .ok (.iadd, 1) := by decide +kernel
theorem dX10_pull_137 : decode cX10_pull 137 = .ok (.dup2, 1) := by decide +kernel
theorem dX10_pull_138 : decode cX10_pull 138 = .ok (.iaload, 1) := by decide +kernel
theorem dX10_pull_139 : decode cX10_pull 139 = .ok (.aload_n 0, 1) := by decide +kernel
theorem dX10_pull_140 : decode cX10_pull 140 = .ok (.getfield 150, 3) := by decide +kernel
theorem dX10_pull_143 : decode cX10_pull 143 = .ok (.iadd, 1) := by decide +kernel
theorem dX10_pull_144 : decode cX10_pull 144 = .ok (.iastore, 1) := by decide +kernel
theorem dX10_pull_145 : decode cX10_pull 145 = .ok (.aload_n 0, 1) := by decide +kernel
theorem dX10_pull_146 : decode cX10_pull 146 = .ok (.iload_n 1, 1) := by decide +kernel
theorem dX10_pull_147 : decode cX10_pull 147 = .ok (.iconst 4, 1) := by decide +kernel
theorem dX10_pull_148 : decode cX10_pull 148 = .ok (.iadd, 1) := by decide +kernel
theorem dX10_pull_149 : decode cX10_pull 149 = .ok (.iload_n 2, 1) := by decide +kernel
theorem dX10_pull_150 : decode cX10_pull 150 = .ok (.iadd, 1) := by decide +kernel
theorem dX10_pull_151 : decode cX10_pull 151 = .ok (.aload_n 0, 1) := by decide +kernel
theorem dX10_pull_152 : decode cX10_pull 152 = .ok (.getfield 26, 3) := by decide +kernel
theorem dX10_pull_155 : decode cX10_pull 155 = .ok (.iload_n 2, 1) := by decide +kernel
theorem dX10_pull_156 : decode cX10_pull 156 = .ok (.iaload, 1) := by decide +kernel
theorem dX10_pull_157 : decode cX10_pull 157 = .ok (.invokevirtual 178, 3) := by decide +kernel
theorem dX10_pull_160 : decode cX10_pull 160 = .ok (.aload_n 0, 1) := by decide +kernel
theorem dX10_pull_161 : decode cX10_pull 161 = .ok (.iload_n 1, 1) := by decide +kernel
theorem dX10_pull_162 : decode cX10_pull 162 = .ok (.iconst 4, 1) := by decide +kernel
theorem dX10_pull_163 : decode cX10_pull 163 = .ok (.iadd, 1) := by decide +kernel
theorem dX10_pull_164 : decode cX10_pull 164 = .ok (.iload_n 3, 1) := by decide +kernel
theorem dX10_pull_165 : decode cX10_pull 165 = .ok (.iadd, 1) := by decide +kernel
theorem dX10_pull_166 : decode cX10_pull 166 = .ok (.iconst (-1), 1) := by decide +kernel
theorem dX10_pull_167 : decode cX10_pull 167 = .ok (.invokevirtual 178, 3) := by decide +kernel
theorem dX10_pull_170 : decode cX10_pull 170 = .ok (.aload_n 0, 1) := by decide +kernel
theorem dX10_pull_171 : decode cX10_pull 171 = .ok (.iload_n 1, 1) := by decide +kernel
theorem dX10_pull_172 : decode cX10_pull 172 = .ok (.iload_n 2, 1) := by decide +kernel
theorem dX10_pull_173 : decode cX10_pull 173 = .ok (.iload_n 3, 1) := by decide +kernel
theorem dX10_pull_174 : decode cX10_pull 174 = .ok (.invokevirtual 188, 3) := by decide +kernel
theorem dX10_pull_177 : decode cX10_pull 177 = .ok (.aload_n 0, 1) := by decide +kernel
theorem dX10_pull_178 : decode cX10_pull 178 = .ok (.getfield 7, 3) := by decide +kernel
theorem dX10_pull_181 : decode cX10_pull 181 = .ok (.iload_n 1, 1) := by decide +kernel
theorem dX10_pull_182 : decode cX10_pull 182 = .ok (.bipush 21, 2) := by decide +kernel
theorem dX10_pull_184 : decode cX10_pull 184 = .ok (.iadd, 1) := by decide +kernel
theorem dX10_pull_185 : decode cX10_pull 185 = .ok (.dup2, 1) := by decide +kernel
theorem dX10_pull_186 : decode cX10_pull 186 = .ok (.iaload, 1) := by decide +kernel
theorem dX10_pull_187 : decode cX10_pull 187 = .ok (.iload 4, 2) := by decide +kernel
theorem dX10_pull_189 : decode cX10_pull 189 = .ok (.ifCond .le 35, 3) := by decide +kernel
theorem dX10_pull_192 : decode cX10_pull 192 = .ok (.aload_n 0, 1) := by decide +kernel
theorem dX10_pull_193 : decode cX10_pull 193 = .ok (.getfield 23, 3) := by decide +kernel
theorem dX10_pull_196 : decode cX10_pull 196 = .ok (.aload_n 0, 1) := by decide +kernel
theorem dX10_pull_197 : decode cX10_pull 197 = .ok (.getfield 7, 3) := by decide +kernel
theorem dX10_pull_200 : decode cX10_pull 200 = .ok (.iload_n 1, 1) := by decide +kernel
theorem dX10_pull_201 : decode cX10_pull 201 = .ok (.bipush 16, 2) := by decide +kernel
theorem dX10_pull_203 : decode cX10_pull 203 = .ok (.iadd, 1) := by decide +kernel
theorem dX10_pull_204 : decode cX10_pull 204 = .ok (.iaload, 1) := by decide +kernel
theorem dX10_pull_205 : decode cX10_pull 205 = .ok (.iaload, 1) := by decide +kernel
theorem dX10_pull_206 : decode cX10_pull 206 = .ok (.aload_n 0, 1) := by decide +kernel
theorem dX10_pull_207 : decode cX10_pull 207 = .ok (.getfield 23, 3) := by decide +kernel
theorem dX10_pull_210 : decode cX10_pull 210 = .ok (.aload_n 0, 1) := by decide +kernel
theorem dX10_pull_211 : decode cX10_pull 211 = .ok (.getfield 7, 3) := by decide +kernel
theorem dX10_pull_214 : decode cX10_pull 214 = .ok (.iload_n 1, 1) := by decide +kernel
theorem dX10_pull_215 : decode cX10_pull 215 = .ok (.bipush 17, 2) := by decide +kernel
theorem dX10_pull_217 : decode cX10_pull 217 = .ok (.iadd, 1) := by decide +kernel
theorem dX10_pull_218 : decode cX10_pull 218 = .ok (.iaload, 1) := by decide +kernel
theorem dX10_pull_219 : decode cX10_pull 219 = .ok (.iaload, 1) := by decide +kernel
theorem dX10_pull_220 : decode cX10_pull 220 = .ok (.isub, 1) := by decide +kernel
theorem dX10_pull_221 : decode cX10_pull 221 = .ok (.goto 4, 3) := by decide +kernel
theorem dX10_pull_224 : decode cX10_pull 224 = .ok (.iconst 0, 1) := by decide +kernel
theorem dX10_pull_225 : decode cX10_pull 225 = .ok (.iadd, 1) := by decide +kernel
theorem dX10_pull_226 : decode cX10_pull 226 = .ok (.iastore, 1) := by decide +kernel
theorem dX10_pull_227 : decode cX10_pull 227 = .ok (.aload_n 0, 1) := by decide +kernel
theorem dX10_pull_228 : decode cX10_pull 228 = .ok (.getfield 7, 3) := by decide +kernel
theorem dX10_pull_231 : decode cX10_pull 231 = .ok (.iload_n 1, 1) := by decide +kernel
theorem dX10_pull_232 : decode cX10_pull 232 = .ok (.bipush 20, 2) := by decide +kernel
theorem dX10_pull_234 : decode cX10_pull 234 = .ok (.iadd, 1) := by decide +kernel
theorem dX10_pull_235 : decode cX10_pull 235 = .ok (.dup2, 1) := by decide +kernel
theorem dX10_pull_236 : decode cX10_pull 236 = .ok (.iaload, 1) := by decide +kernel
theorem dX10_pull_237 : decode cX10_pull 237 = .ok (.iconst 1, 1) := by decide +kernel
theorem dX10_pull_238 : decode cX10_pull 238 = .ok (.iadd, 1) := by decide +kernel
theorem dX10_pull_239 : decode cX10_pull 239 = .ok (.iastore, 1) := by decide +kernel
theorem dX10_pull_240 : decode cX10_pull 240 = .ok (.aload_n 0, 1) := by decide +kernel
theorem dX10_pull_241 : decode cX10_pull 241 = .ok (.getfield 7, 3) := by decide +kernel
theorem dX10_pull_244 : decode cX10_pull 244 = .ok (.iload_n 1, 1) := by decide +kernel
theorem dX10_pull_245 : decode cX10_pull 245 = .ok (.bipush 18, 2) := by decide +kernel
theorem dX10_pull_247 : decode cX10_pull 247 = .ok (.iadd, 1) := by decide +kernel
theorem dX10_pull_248 : decode cX10_pull 248 = .ok (.iload_n 3, 1) := by decide +kernel
theorem dX10_pull_249 : decode cX10_pull 249 = .ok (.iastore, 1) := by decide +kernel
theorem dX10_pull_250 : decode cX10_pull 250 = .ok (.iload 4, 2) := by decide +kernel
theorem dX10_pull_252 : decode cX10_pull 252 = .ok (.ireturn, 1) := by decide +kernel
theorem dX10_relax_0 : decode cX10_relax 0 = .ok (.aload_n 0, 1) := by decide +kernel
theorem dX10_relax_1 : decode cX10_relax 1 = .ok (.iload_n 1, 1) := by decide +kernel
theorem dX10_relax_2 : decode cX10_relax 2 = .ok (.iconst 4, 1) := by decide +kernel
theorem dX10_relax_3 : decode cX10_relax 3 = .ok (.iadd, 1) := by decide +kernel
theorem dX10_relax_4 : decode cX10_relax 4 = .ok (.aload_n 0, 1) := by decide +kernel
theorem dX10_relax_5 : decode cX10_relax 5 = .ok (.getfield 7, 3) := by decide +kernel
theorem dX10_relax_8 : decode cX10_relax 8 = .ok (.iload_n 1, 1) := by decide +kernel
theorem dX10_relax_9 : decode cX10_relax 9 = .ok (.bipush 16, 2) := by decide +kernel
theorem dX10_relax_11 : decode cX10_relax 11 = .ok (.iadd, 1) := by decide +kernel
theorem dX10_relax_12 : decode cX10_relax 12 = .ok (.iaload, 1) := by decide +kernel
theorem dX10_relax_13 : decode cX10_relax 13 = .ok (.iadd, 1) := by decide +kernel
theorem dX10_relax_14 : decode cX10_relax 14 = .ok (.bipush (-3), 2) := by decide +kernel
theorem dX10_relax_16 : decode cX10_relax 16 = .ok (.iload_n 2, 1) := by decide +kernel
theorem dX10_relax_17 : decode cX10_relax 17 = .ok (.imul, 1) := by decide +kernel
theorem dX10_relax_18 : decode cX10_relax 18 = .ok (.invokevirtual 178, 3) := by decide +kernel
theorem dX10_relax_21 : decode cX10_relax 21 = .ok (.aload_n 0, 1) := by decide +kernel
theorem dX10_relax_22 : decode cX10_relax 22 = .ok (.iload_n 1, 1) := by decide +kernel
theorem dX10_relax_23 : decode cX10_relax 23 = .ok (.iconst 4, 1) := by decide +kernel
theorem dX10_relax_24 : decode cX10_relax 24 = .ok (.iadd, 1) := by decide +kernel
theorem dX10_relax_25 : decode cX10_relax 25 = .ok (.aload_n 0, 1) := by decide +kernel
theorem dX10_relax_26 : decode cX10_relax 26 = .ok (.getfield 7, 3) := by decide +kernel
theorem dX10_relax_29 : decode cX10_relax 29 = .ok (.iload_n 1, 1) := by decide +kernel
theorem dX10_relax_30 : decode cX10_relax 30 = .ok (.bipush 17, 2) := by decide +kernel
theorem dX10_relax_32 : decode cX10_relax 32 = .ok (.iadd, 1) := by decide +kernel
theorem dX10_relax_33 : decode cX10_relax 33 = .ok (.iaload, 1) := by decide +kernel
theorem dX10_relax_34 : decode cX10_relax 34 = .ok (.iadd, 1) := by decide +kernel
theorem dX10_relax_35 : decode cX10_relax 35 = .ok (.bipush (-3), 2) := by decide +kernel
theorem dX10_relax_37 : decode cX10_relax 37 = .ok (.iload_n 2, 1) := by decide +kernel
theorem dX10_relax_38 : decode cX10_relax 38 = .ok (.imul, 1) := by decide +kernel
theorem dX10_relax_39 : decode cX10_relax 39 = .ok (.invokevirtual 178, 3) := by decide +kernel
theorem dX10_relax_42 : decode cX10_relax 42 = .ok (.aload_n 0, 1) := by decide +kernel
theorem dX10_relax_43 : decode cX10_relax 43 = .ok (.getfield 7, 3) := by decide +kernel
theorem dX10_relax_46 : decode cX10_relax 46 = .ok (.iload_n 1, 1) := by decide +kernel
theorem dX10_relax_47 : decode cX10_relax 47 = .ok (.bipush 20, 2) := by decide +kernel
theorem dX10_relax_49 : decode cX10_relax 49 = .ok (.iadd, 1) := by decide +kernel
theorem dX10_relax_50 : decode cX10_relax 50 = .ok (.dup2, 1) := by decide +kernel
theorem dX10_relax_51 : decode cX10_relax 51 = .ok (.iaload, 1) := by decide +kernel
theorem dX10_relax_52 : decode cX10_relax 52 = .ok (.iload_n 2, 1) := by decide +kernel
theorem dX10_relax_53 : decode cX10_relax 53 = .ok (.iadd, 1) := by decide +kernel
theorem dX10_relax_54 : decode cX10_relax 54 = .ok (.iastore, 1) := by decide +kernel
theorem dX10_relax_55 : decode cX10_relax 55 = .ok (.return_, 1) := by decide +kernel
theorem dX10_copy_0 : decode cX10_copy 0 = .ok (.iconst 0, 1) := by decide +kernel
theorem dX10_copy_1 : decode cX10_copy 1 = .ok (.istore_n 3, 1) := by decide +kernel
theorem dX10_copy_2 : decode cX10_copy 2 = .ok (.iload_n 3, 1) := by decide +kernel
theorem dX10_copy_3 : decode cX10_copy 3 = .ok (.bipush 28, 2) := by decide +kernel
theorem dX10_copy_5 : decode cX10_copy 5 = .ok (.if_icmp .ge 25, 3) := by decide +kernel
theorem dX10_copy_8 : decode cX10_copy 8 = .ok (.aload_n 0, 1) := by decide +kernel
theorem dX10_copy_9 : decode cX10_copy 9 = .ok (.getfield 7, 3) := by decide +kernel
theorem dX10_copy_12 : decode cX10_copy 12 = .ok (.iload_n 2, 1) := by decide +kernel
theorem dX10_copy_13 : decode cX10_copy 13 = .ok (.iload_n 3, 1) := by decide +kernel
theorem dX10_copy_14 : decode cX10_copy 14 = .ok (.iadd, 1) := by decide +kernel
theorem dX10_copy_15 : decode cX10_copy 15 = .ok (.aload_n 0, 1) := by decide +kernel
theorem dX10_copy_16 : decode cX10_copy 16 = .ok (.getfield 7, 3) := by decide +kernel
theorem dX10_copy_19 : decode cX10_copy 19 = .ok (.iload_n 1, 1) := by decide +kernel
theorem dX10_copy_20 : decode cX10_copy 20 = .ok (.iload_n 3, 1) := by decide +kernel
theorem dX10_copy_21 : decode cX10_copy 21 = .ok (.iadd, 1) := by decide +kernel
theorem dX10_copy_22 : decode cX10_copy 22 = .ok (.iaload, 1) := by decide +kernel
theorem dX10_copy_23 : decode cX10_copy 23 = .ok (.iastore, 1) := by decide +kernel
theorem dX10_copy_24 : decode cX10_copy 24 = .ok (.iinc 3 1, 3) := by decide +kernel
theorem dX10_copy_27 : decode cX10_copy 27 = .ok (.goto (-25), 3) := by decide +kernel
theorem dX10_copy_30 : decode cX10_copy 30 = .ok (.return_, 1) := by decide +kernel
theorem dX10_remember_0 : decode cX10_remember 0 = .ok (.aload_n 0, 1) := by decide +kernel
theorem dX10_remember_1 : decode cX10_remember 1 = .ok (.getfield 163, 3) := by decide +kernel
theorem dX10_remember_4 : decode cX10_remember 4 = .ok (.bipush 30, 2) := by decide +kernel
theorem dX10_remember_6 : decode cX10_remember 6 = .ok (.if_icmp .ne 47, 3) := by decide +kernel
theorem dX10_remember_9 : decode cX10_remember 9 = .ok (.iconst 1, 1) := by decide +kernel
theorem dX10_remember_10 : decode cX10_remember 10 = .ok (.istore_n 1, 1) := by decide +kernel
theorem dX10_remember_11 : decode cX10_remember 11 = .ok (.iload_n 1, 1) := by decide +kernel
theorem dX10_remember_12 : decode cX10_remember 12 = .ok (.bipush 30, 2) := by decide +kernel
theorem dX10_remember_14 : decode cX10_remember 14 = .ok (.if_icmp .ge 29, 3) := by decide +kernel
theorem dX10_remember_17 : decode cX10_remember 17 = .ok (.aload_n 0, 1) := by decide +kernel
theorem dX10_remember_18 : decode cX10_remember 18 = .ok (.bipush 112, 2) := by decide +kernel
theorem dX10_remember_20 : decode cX10_remember 20 = .ok (.bipush 28, 2) := by decide +kernel
theorem dX10_remember_22 : decode cX10_remember 22 = .ok (.iload_n 1, 1) := by decide +kernel
theorem dX10_remember_23 : decode cX10_remember 23 = .ok (.imul, 1) := by decide +kernel
theorem dX10_remember_24 : decode cX10_remember 24 = .ok (.iadd, 1) := by decide +kernel
theorem dX10_remember_25 : decode cX10_remember 25 = .ok (.bipush 112, 2) := by decide +kernel
theorem dX10_remember_27 : decode cX10_remember 27 = .ok (.bipush 28, 2) := by decide +kernel
theorem dX10_remember_29 : decode cX10_remember 29 = .ok (.iload_n 1, 1) := by decide +kernel
theorem dX10_remember_30 : decode cX10_remember 30 = .ok (.iconst 1, 1) := by decide +kernel
theorem dX10_remember_31 : decode cX10_remember 31 = .ok (.isub, 1) := by decide +kernel
theorem dX10_remember_32 : decode cX10_remember 32 = .ok (.imul, 1) := by decide +kernel
theorem dX10_remember_33 : decode cX10_remember 33 = .ok (.iadd, 1) := by decide +kernel
theorem dX10_remember_34 : decode cX10_remember 34 = .ok (.invokevirtual 191, 3) := by decide +kernel
theorem dX10_remember_37 : decode cX10_remember 37 = .ok (.iinc 1 1, 3) := by decide +kernel
end
section
theorem dX10_remember_40 : decode cX10_remember 40 = .ok (.goto (-29), 3) := by decide +kernel
theorem dX10_remember_43 : decode cX10_remember 43 = .ok (.aload_n 0, 1) := by decide +kernel
theorem dX10_remember_44 : decode cX10_remember 44 = .ok (.dup, 1) := by decide +kernel
theorem dX10_remember_45 : decode cX10_remember 45 = .ok (.getfield 163, 3) := by decide +kernel
theorem dX10_remember_48 : decode cX10_remember 48 = .ok (.iconst 1, 1) := by decide +kernel
theorem dX10_remember_49 : decode cX10_remember 49 = .ok (.isub, 1) := by decide +kernel
theorem dX10_remember_50 : decode cX10_remember 50 = .ok (.putfield 163, 3) := by decide +kernel
theorem dX10_remember_53 : decode cX10_remember 53 = .ok (.aload_n 0, 1) := by decide +kernel
theorem dX10_remember_54 : decode cX10_remember 54 = .ok (.iconst 0, 1) := by decide +kernel
theorem dX10_remember_55 : decode cX10_remember 55 = .ok (.bipush 112, 2) := by decide +kernel
theorem dX10_remember_57 : decode cX10_remember 57 = .ok (.bipush 28, 2) := by decide +kernel
theorem dX10_remember_59 : decode cX10_remember 59 = .ok (.aload_n 0, 1) := by decide +kernel
theorem dX10_remember_60 : decode cX10_remember 60 = .ok (.getfield 163, 3) := by decide +kernel
theorem dX10_remember_63 : decode cX10_remember 63 = .ok (.imul, 1) := by decide +kernel
theorem dX10_remember_64 : decode cX10_remember 64 = .ok (.iadd, 1) := by decide +kernel
theorem dX10_remember_65 : decode cX10_remember 65 = .ok (.invokevirtual 191, 3) := by decide +kernel
theorem dX10_remember_68 : decode cX10_remember 68 = .ok (.aload_n 0, 1) := by decide +kernel
theorem dX10_remember_69 : decode cX10_remember 69 = .ok (.dup, 1) := by decide +kernel
theorem dX10_remember_70 : decode cX10_remember 70 = .ok (.getfield 163, 3) := by decide +kernel
theorem dX10_remember_73 : decode cX10_remember 73 = .ok (.iconst 1, 1) := by decide +kernel
theorem dX10_remember_74 : decode cX10_remember 74 = .ok (.iadd, 1) := by decide +kernel
theorem dX10_remember_75 : decode cX10_remember 75 = .ok (.putfield 163, 3) := by decide +kernel
theorem dX10_remember_78 : decode cX10_remember 78 = .ok (.return_, 1) := by decide +kernel
theorem dX10_log_0 : decode cX10_log 0 = .ok (.aload_n 0, 1) := by decide +kernel
theorem dX10_log_1 : decode cX10_log 1 = .ok (.iload_n 1, 1) := by decide +kernel
theorem dX10_log_2 : decode cX10_log 2 = .ok (.invokevirtual 175, 3) := by decide +kernel
theorem dX10_log_5 : decode cX10_log 5 = .ok (.ifCond .eq 16, 3) := by decide +kernel
theorem dX10_log_8 : decode cX10_log 8 = .ok (.aload_n 0, 1) := by decide +kernel
theorem dX10_log_9 : decode cX10_log 9 = .ok (.iload_n 2, 1) := by decide +kernel
theorem dX10_log_10 : decode cX10_log 10 = .ok (.invokevirtual 175, 3) := by decide +kernel
theorem dX10_log_13 : decode cX10_log 13 = .ok (.ifCond .eq 8, 3) := by decide +kernel
theorem dX10_log_16 : decode cX10_log 16 = .ok (.iload_n 1, 1) := by decide +kernel
theorem dX10_log_17 : decode cX10_log 17 = .ok (.iload_n 2, 1) := by decide +kernel
theorem dX10_log_18 : decode cX10_log 18 = .ok (.if_icmp .ne 6, 3) := by decide +kernel
theorem dX10_log_21 : decode cX10_log 21 = .ok (.ldc 174, 2) := by decide +kernel
theorem dX10_log_23 : decode cX10_log 23 = .ok (.ireturn, 1) := by decide +kernel
theorem dX10_log_24 : decode cX10_log 24 = .ok (.aload_n 0, 1) := by decide +kernel
theorem dX10_log_25 : decode cX10_log 25 = .ok (.getfield 144, 3) := by decide +kernel
theorem dX10_log_28 : decode cX10_log 28 = .ok (.ifCond .ne 6, 3) := by decide +kernel
theorem dX10_log_31 : decode cX10_log 31 = .ok (.ldc 194, 2) := by decide +kernel
theorem dX10_log_33 : decode cX10_log 33 = .ok (.ireturn, 1) := by decide +kernel
theorem dX10_log_34 : decode cX10_log 34 = .ok (.aload_n 0, 1) := by decide +kernel
theorem dX10_log_35 : decode cX10_log 35 = .ok (.iconst 0, 1) := by decide +kernel
theorem dX10_log_36 : decode cX10_log 36 = .ok (.iload_n 1, 1) := by decide +kernel
theorem dX10_log_37 : decode cX10_log 37 = .ok (.iload_n 2, 1) := by decide +kernel
theorem dX10_log_38 : decode cX10_log 38 = .ok (.invokevirtual 153, 3) := by decide +kernel
theorem dX10_log_41 : decode cX10_log 41 = .ok (.aload_n 0, 1) := by decide +kernel
theorem dX10_log_42 : decode cX10_log 42 = .ok (.iconst 0, 1) := by decide +kernel
theorem dX10_log_43 : decode cX10_log 43 = .ok (.putfield 163, 3) := by decide +kernel
theorem dX10_log_46 : decode cX10_log 46 = .ok (.iload_n 1, 1) := by decide +kernel
theorem dX10_log_47 : decode cX10_log 47 = .ok (.ireturn, 1) := by decide +kernel
theorem dX10_stroke_0 : decode cX10_stroke 0 = .ok (.iload_n 1, 1) := by decide +kernel
theorem dX10_stroke_1 : decode cX10_stroke 1 = .ok (.i2l, 1) := by decide +kernel
theorem dX10_stroke_2 : decode cX10_stroke 2 = .ok (.lconst 1, 1) := by decide +kernel
theorem dX10_stroke_3 : decode cX10_stroke 3 = .ok (.ldc2_w 195, 3) := by decide +kernel
theorem dX10_stroke_6 : decode cX10_stroke 6 = .ok (.invokestatic 68, 3) := by decide +kernel
theorem dX10_stroke_9 : decode cX10_stroke 9 = .ok (.ifCond .ne 6, 3) := by decide +kernel
theorem dX10_stroke_12 : decode cX10_stroke 12 = .ok (.ldc 72, 2) := by decide +kernel
theorem dX10_stroke_14 : decode cX10_stroke 14 = .ok (.ireturn, 1) := by decide +kernel
theorem dX10_stroke_15 : decode cX10_stroke 15 = .ok (.aload_n 0, 1) := by decide +kernel
theorem dX10_stroke_16 : decode cX10_stroke 16 = .ok (.invokevirtual 197, 3) := by decide +kernel
theorem dX10_stroke_19 : decode cX10_stroke 19 = .ok (.ifCond .eq 11, 3) := by decide +kernel
theorem dX10_stroke_22 : decode cX10_stroke 22 = .ok (.aload_n 0, 1) := by decide +kernel
theorem dX10_stroke_23 : decode cX10_stroke 23 = .ok (.iconst 0, 1) := by decide +kernel
theorem dX10_stroke_24 : decode cX10_stroke 24 = .ok (.invokevirtual 166, 3) := by decide +kernel
theorem dX10_stroke_27 : decode cX10_stroke 27 = .ok (.ifCond .eq 6, 3) := by decide +kernel
theorem dX10_stroke_30 : decode cX10_stroke 30 = .ok (.ldc 194, 2) := by decide +kernel
theorem dX10_stroke_32 : decode cX10_stroke 32 = .ok (.ireturn, 1) := by decide +kernel
theorem dX10_stroke_33 : decode cX10_stroke 33 = .ok (.aload_n 0, 1) := by decide +kernel
theorem dX10_stroke_34 : decode cX10_stroke 34 = .ok (.invokevirtual 201, 3) := by decide +kernel
theorem dX10_stroke_37 : decode cX10_stroke 37 = .ok (.iconst 0, 1) := by decide +kernel
theorem dX10_stroke_38 : decode cX10_stroke 38 = .ok (.istore_n 2, 1) := by decide +kernel
theorem dX10_stroke_39 : decode cX10_stroke 39 = .ok (.iconst 0, 1) := by decide +kernel
theorem dX10_stroke_40 : decode cX10_stroke 40 = .ok (.istore_n 3, 1) := by decide +kernel
theorem dX10_stroke_41 : decode cX10_stroke 41 = .ok (.iload_n 3, 1) := by decide +kernel
theorem dX10_stroke_42 : decode cX10_stroke 42 = .ok (.iload_n 1, 1) := by decide +kernel
theorem dX10_stroke_43 : decode cX10_stroke 43 = .ok (.if_icmp .ge 25, 3) := by decide +kernel
theorem dX10_stroke_46 : decode cX10_stroke 46 = .ok (.aload_n 0, 1) := by decide +kernel
theorem dX10_stroke_47 : decode cX10_stroke 47 = .ok (.iconst 0, 1) := by decide +kernel
theorem dX10_stroke_48 : decode cX10_stroke 48 = .ok (.invokevirtual 166, 3) := by decide +kernel
theorem dX10_stroke_51 : decode cX10_stroke 51 = .ok (.ifCond .ne 17, 3) := by decide +kernel
theorem dX10_stroke_54 : decode cX10_stroke 54 = .ok (.iload_n 2, 1) := by decide +kernel
theorem dX10_stroke_55 : decode cX10_stroke 55 = .ok (.aload_n 0, 1) := by decide +kernel
theorem dX10_stroke_56 : decode cX10_stroke 56 = .ok (.iconst 0, 1) := by decide +kernel
theorem dX10_stroke_57 : decode cX10_stroke 57 = .ok (.invokevirtual 204, 3) := by decide +kernel
theorem dX10_stroke_60 : decode cX10_stroke 60 = .ok (.iadd, 1) := by decide +kernel
theorem dX10_stroke_61 : decode cX10_stroke 61 = .ok (.istore_n 2, 1) := by decide +kernel
theorem dX10_stroke_62 : decode cX10_stroke 62 = .ok (.iinc 3 1, 3) := by decide +kernel
theorem dX10_stroke_65 : decode cX10_stroke 65 = .ok (.goto (-24), 3) := by decide +kernel
theorem dX10_stroke_68 : decode cX10_stroke 68 = .ok (.iload_n 2, 1) := by decide +kernel
theorem dX10_stroke_69 : decode cX10_stroke 69 = .ok (.ireturn, 1) := by decide +kernel
theorem dX10_rest_0 : decode cX10_rest 0 = .ok (.iload_n 1, 1) := by decide +kernel
theorem dX10_rest_1 : decode cX10_rest 1 = .ok (.i2l, 1) := by decide +kernel
theorem dX10_rest_2 : decode cX10_rest 2 = .ok (.lconst 1, 1) := by decide +kernel
theorem dX10_rest_3 : decode cX10_rest 3 = .ok (.ldc2_w 195, 3) := by decide +kernel
theorem dX10_rest_6 : decode cX10_rest 6 = .ok (.invokestatic 68, 3) := by decide +kernel
theorem dX10_rest_9 : decode cX10_rest 9 = .ok (.ifCond .ne 6, 3) := by decide +kernel
theorem dX10_rest_12 : decode cX10_rest 12 = .ok (.ldc 72, 2) := by decide +kernel
theorem dX10_rest_14 : decode cX10_rest 14 = .ok (.ireturn, 1) := by decide +kernel
theorem dX10_rest_15 : decode cX10_rest 15 = .ok (.aload_n 0, 1) := by decide +kernel
theorem dX10_rest_16 : decode cX10_rest 16 = .ok (.invokevirtual 197, 3) := by decide +kernel
theorem dX10_rest_19 : decode cX10_rest 19 = .ok (.ifCond .eq 11, 3) := by decide +kernel
theorem dX10_rest_22 : decode cX10_rest 22 = .ok (.aload_n 0, 1) := by decide +kernel
theorem dX10_rest_23 : decode cX10_rest 23 = .ok (.iconst 0, 1) := by decide +kernel
theorem dX10_rest_24 : decode cX10_rest 24 = .ok (.invokevirtual 166, 3) := by decide +kernel
theorem dX10_rest_27 : decode cX10_rest 27 = .ok (.ifCond .eq 6, 3) := by decide +kernel
theorem dX10_rest_30 : decode cX10_rest 30 = .ok (.ldc 194, 2) := by decide +kernel
theorem dX10_rest_32 : decode cX10_rest 32 = .ok (.ireturn, 1) := by decide +kernel
theorem dX10_rest_33 : decode cX10_rest 33 = .ok (.aload_n 0, 1) := by decide +kernel
theorem dX10_rest_34 : decode cX10_rest 34 = .ok (.invokevirtual 201, 3) := by decide +kernel
theorem dX10_rest_37 : decode cX10_rest 37 = .ok (.aload_n 0, 1) := by decide +kernel
theorem dX10_rest_38 : decode cX10_rest 38 = .ok (.iconst 0, 1) := by decide +kernel
theorem dX10_rest_39 : decode cX10_rest 39 = .ok (.iload_n 1, 1) := by decide +kernel
theorem dX10_rest_40 : decode cX10_rest 40 = .ok (.invokevirtual 207, 3) := by decide +kernel
theorem dX10_rest_43 : decode cX10_rest 43 = .ok (.aload_n 0, 1) := by decide +kernel
theorem dX10_rest_44 : decode cX10_rest 44 = .ok (.getfield 7, 3) := by decide +kernel
theorem dX10_rest_47 : decode cX10_rest 47 = .ok (.bipush 20, 2) := by decide +kernel
theorem dX10_rest_49 : decode cX10_rest 49 = .ok (.iaload, 1) := by decide +kernel
theorem dX10_rest_50 : decode cX10_rest 50 = .ok (.ireturn, 1) := by decide +kernel
theorem dX10_sides_0 : decode cX10_sides 0 = .ok (.aload_n 0, 1) := by decide +kernel
theorem dX10_sides_1 : decode cX10_sides 1 = .ok (.invokevirtual 197, 3) := by decide +kernel
theorem dX10_sides_4 : decode cX10_sides 4 = .ok (.ifCond .ne 6, 3) := by decide +kernel
theorem dX10_sides_7 : decode cX10_sides 7 = .ok (.ldc 194, 2) := by decide +kernel
theorem dX10_sides_9 : decode cX10_sides 9 = .ok (.ireturn, 1) := by decide +kernel
theorem dX10_sides_10 : decode cX10_sides 10 = .ok (.aload_n 0, 1) := by decide +kernel
theorem dX10_sides_11 : decode cX10_sides 11 = .ok (.invokevirtual 201, 3) := by decide +kernel
theorem dX10_sides_14 : decode cX10_sides 14 = .ok (.aload_n 0, 1) := by decide +kernel
theorem dX10_sides_15 : decode cX10_sides 15 = .ok (.getfield 7, 3) := by decide +kernel
theorem dX10_sides_18 : decode cX10_sides 18 = .ok (.bipush 16, 2) := by decide +kernel
theorem dX10_sides_20 : decode cX10_sides 20 = .ok (.iaload, 1) := by decide +kernel
theorem dX10_sides_21 : decode cX10_sides 21 = .ok (.istore_n 1, 1) := by decide +kernel
theorem dX10_sides_22 : decode cX10_sides 22 = .ok (.aload_n 0, 1) := by decide +kernel
theorem dX10_sides_23 : decode cX10_sides 23 = .ok (.getfield 7, 3) := by decide +kernel
theorem dX10_sides_26 : decode cX10_sides 26 = .ok (.bipush 16, 2) := by decide +kernel
theorem dX10_sides_28 : decode cX10_sides 28 = .ok (.aload_n 0, 1) := by decide +kernel
theorem dX10_sides_29 : decode cX10_sides 29 = .ok (.getfield 7, 3) := by decide +kernel
theorem dX10_sides_32 : decode cX10_sides 32 = .ok (.bipush 17, 2) := by decide +kernel
theorem dX10_sides_34 : decode cX10_sides 34 = .ok (.iaload, 1) := by decide +kernel
theorem dX10_sides_35 : decode cX10_sides 35 = .ok (.iastore, 1) := by decide +kernel
theorem dX10_sides_36 : decode cX10_sides 36 = .ok (.aload_n 0, 1) := by decide +kernel
theorem dX10_sides_37 : decode cX10_sides 37 = .ok (.getfield 7, 3) := by decide +kernel
theorem dX10_sides_40 : decode cX10_sides 40 = .ok (.bipush 17, 2) := by decide +kernel
theorem dX10_sides_42 : decode cX10_sides 42 = .ok (.iload_n 1, 1) := by decide +kernel
theorem dX10_sides_43 : decode cX10_sides 43 = .ok (.iastore, 1) := by decide +kernel
theorem dX10_sides_44 : decode cX10_sides 44 = .ok (.aload_n 0, 1) := by decide +kernel
theorem dX10_sides_45 : decode cX10_sides 45 = .ok (.getfield 7, 3) := by decide +kernel
theorem dX10_sides_48 : decode cX10_sides 48 = .ok (.bipush 16, 2) := by decide +kernel
theorem dX10_sides_50 : decode cX10_sides 50 = .ok (.iaload, 1) := by decide +kernel
theorem dX10_sides_51 : decode cX10_sides 51 = .ok (.ireturn, 1) := by decide +kernel
theorem dX10_oil_0 : decode cX10_oil 0 = .ok (.aload_n 0, 1) := by decide +kernel
theorem dX10_oil_1 : decode cX10_oil 1 = .ok (.invokevirtual 197, 3) := by decide +kernel
theorem dX10_oil_4 : decode cX10_oil 4 = .ok (.ifCond .ne 6, 3) := by decide +kernel
theorem dX10_oil_7 : decode cX10_oil 7 = .ok (.ldc 194, 2) := by decide +kernel
theorem dX10_oil_9 : decode cX10_oil 9 = .ok (.ireturn, 1) := by decide +kernel
theorem dX10_oil_10 : decode cX10_oil 10 = .ok (.aload_n 0, 1) := by decide +kernel
theorem dX10_oil_11 : decode cX10_oil 11 = .ok (.getfield 7, 3) := by decide +kernel
theorem dX10_oil_14 : decode cX10_oil 14 = .ok (.bipush 22, 2) := by decide +kernel
theorem dX10_oil_16 : decode cX10_oil 16 = .ok (.iaload, 1) := by decide +kernel
theorem dX10_oil_17 : decode cX10_oil 17 = .ok (.istore_n 1, 1) := by decide +kernel
theorem dX10_oil_18 : decode cX10_oil 18 = .ok (.iload_n 1, 1) := by decide +kernel
theorem dX10_oil_19 : decode cX10_oil 19 = .ok (.ifCond .le 7, 3) := by decide +kernel
theorem dX10_oil_22 : decode cX10_oil 22 = .ok (.aload_n 0, 1) := by decide +kernel
theorem dX10_oil_23 : decode cX10_oil 23 = .ok (.invokevirtual 201, 3) := by decide +kernel
theorem dX10_oil_26 : decode cX10_oil 26 = .ok (.aload_n 0, 1) := by decide +kernel
theorem dX10_oil_27 : decode cX10_oil 27 = .ok (.getfield 7, 3) := by decide +kernel
theorem dX10_oil_30 : decode cX10_oil 30 = .ok (.bipush 22, 2) := by decide +kernel
theorem dX10_oil_32 : decode cX10_oil 32 = .ok (.iconst 0, 1) := by decide +kernel
theorem dX10_oil_33 : decode cX10_oil 33 = .ok (.iastore, 1) := by decide +kernel
theorem dX10_oil_34 : decode cX10_oil 34 = .ok (.iload_n 1, 1) := by decide +kernel
theorem dX10_oil_35 : decode cX10_oil 35 = .ok (.ireturn, 1) := by decide +kernel
theorem dX10_wedge_0 : decode cX10_wedge 0 = .ok (.aload_n 0, 1) := by decide +kernel
theorem dX10_wedge_1 : decode cX10_wedge 1 = .ok (.invokevirtual 197, 3) := by decide +kernel
theorem dX10_wedge_4 : decode cX10_wedge 4 = .ok (.ifCond .eq 14, 3) := by decide +kernel
theorem dX10_wedge_7 : decode cX10_wedge 7 = .ok (.aload_n 0, 1) := by decide +kernel
theorem dX10_wedge_8 : decode cX10_wedge 8 = .ok (.getfield 7, 3) := by decide +kernel
theorem dX10_wedge_11 : decode cX10_wedge 11 = .ok (.bipush 23, 2) := by decide +kernel
theorem dX10_wedge_13 : decode cX10_wedge 13 = .ok (.iaload, 1) := by decide +kernel
theorem dX10_wedge_14 : decode cX10_wedge 14 = .ok (.iconst 1, 1) := by decide +kernel
theorem dX10_wedge_15 : decode cX10_wedge 15 = .ok (.if_icmp .ne 6, 3) := by decide +kernel
theorem dX10_wedge_18 : decode cX10_wedge 18 = .ok (.ldc 194, 2) := by decide +kernel
theorem dX10_wedge_20 : decode cX10_wedge 20 = .ok (.ireturn, 1) := by decide +kernel
theorem dX10_wedge_21 : decode cX10_wedge 21 = .ok (.aload_n 0, 1) := by decide +kernel
theorem dX10_wedge_22 : decode cX10_wedge 22 = .ok (.invokevirtual 201, 3) := by decide +kernel
theorem dX10_wedge_25 : decode cX10_wedge 25 = .ok (.aload_n 0, 1) := by decide +kernel
theorem dX10_wedge_26 : decode cX10_wedge 26 = .ok (.getfield 7, 3) := by decide +kernel
theorem dX10_wedge_29 : decode cX10_wedge 29 = .ok (.bipush 23, 2) := by decide +kernel
theorem dX10_wedge_31 : decode cX10_wedge 31 = .ok (.iconst 1, 1) := by decide +kernel
theorem dX10_wedge_32 : decode cX10_wedge 32 = .ok (.iastore, 1) := by decide +kernel
theorem dX10_wedge_33 : decode cX10_wedge 33 = .ok (.aload_n 0, 1) := by decide +kernel
theorem dX10_wedge_34 : decode cX10_wedge 34 = .ok (.getfield 7, 3) := by decide +kernel
theorem dX10_wedge_37 : decode cX10_wedge 37 = .ok (.bipush 20, 2) := by decide +kernel
theorem dX10_wedge_39 : decode cX10_wedge 39 = .ok (.dup2, 1) := by decide +kernel
theorem dX10_wedge_40 : decode cX10_wedge 40 = .ok (.iaload, 1) := by decide +kernel
theorem dX10_wedge_41 : decode cX10_wedge 41 = .ok (.iconst 3, 1) := by decide +kernel
theorem dX10_wedge_42 : decode cX10_wedge 42 = .ok (.iadd, 1) := by decide +kernel
theorem dX10_wedge_43 : decode cX10_wedge 43 = .ok (.iastore, 1) := by decide +kernel
theorem dX10_wedge_44 : decode cX10_wedge 44 = .ok (.aload_n 0, 1) := by decide +kernel
theorem dX10_wedge_45 : decode cX10_wedge 45 = .ok (.getfield 7, 3) := by decide +kernel
theorem dX10_wedge_48 : decode cX10_wedge 48 = .ok (.bipush 20, 2) := by decide +kernel
theorem dX10_wedge_50 : decode cX10_wedge 50 = .ok (.iaload, 1) := by decide +kernel
theorem dX10_wedge_51 : decode cX10_wedge 51 = .ok (.ireturn, 1) := by decide +kernel
theorem dX10_file_0 : decode cX10_file 0 = .ok (.aload_n 0, 1) := by decide +kernel
theorem dX10_file_1 : decode cX10_file 1 = .ok (.invokevirtual 197, 3) := by decide +kernel
theorem dX10_file_4 : decode cX10_file 4 = .ok (.ifCond .eq 15, 3) := by decide +kernel
theorem dX10_file_7 : decode cX10_file 7 = .ok (.aload_n 0, 1) := by decide +kernel
theorem dX10_file_8 : decode cX10_file 8 = .ok (.getfield 7, 3) := by decide +kernel
theorem dX10_file_11 : decode cX10_file 11 = .ok (.bipush 24, 2) := by decide +kernel
theorem dX10_file_13 : decode cX10_file 13 = .ok (.iaload, 1) := by decide +kernel
theorem dX10_file_14 : decode cX10_file 14 = .ok (.bipush 9, 2) := by decide +kernel
theorem dX10_file_16 : decode cX10_file 16 = .ok (.if_icmp .ne 6, 3) := by decide +kernel
theorem dX10_file_19 : decode cX10_file 19 = .ok (.ldc 194, 2) := by decide +kernel
theorem dX10_file_21 : decode cX10_file 21 = .ok (.ireturn, 1) := by decide +kernel
theorem dX10_file_22 : decode cX10_file 22 = .ok (.aload_n 0, 1) := by decide +kernel
theorem dX10_file_23 : decode cX10_file 23 = .ok (.invokevirtual 201, 3) := by decide +kernel
theorem dX10_file_26 : decode cX10_file 26 = .ok (.aload_n 0, 1) := by decide +kernel
theorem dX10_file_27 : decode cX10_file 27 = .ok (.getfield 7, 3) := by decide +kernel
theorem dX10_file_30 : decode cX10_file 30 = .ok (.bipush 24, 2) := by decide +kernel
theorem dX10_file_32 : decode cX10_file 32 = .ok (.dup2, 1) := by decide +kernel
theorem dX10_file_33 : decode cX10_file 33 = .ok (.iaload, 1) := by decide +kernel
theorem dX10_file_34 : decode cX10_file 34 = .ok (.iconst 1, 1) := by decide +kernel
theorem dX10_file_35 : decode cX10_file 35 = .ok (.iadd, 1) := by decide +kernel
theorem dX10_file_36 : decode cX10_file 36 = .ok (.iastore, 1) := by decide +kernel
theorem dX10_file_37 : decode cX10_file 37 = .ok (.aload_n 0, 1) := by decide +kernel
theorem dX10_file_38 : decode cX10_file 38 = .ok (.getfield 7, 3) := by decide +kernel
theorem dX10_file_41 : decode cX10_file 41 = .ok (.bipush 20, 2) := by decide +kernel
theorem dX10_file_43 : decode cX10_file 43 = .ok (.dup2, 1) := by decide +kernel
theorem dX10_file_44 : decode cX10_file 44 = .ok (.iaload, 1) := by decide +kernel
theorem dX10_file_45 : decode cX10_file 45 = .ok (.bipush 20, 2) := by decide +kernel
theorem dX10_file_47 : decode cX10_file 47 = .ok (.iadd, 1) := by decide +kernel
theorem dX10_file_48 : decode cX10_file 48 = .ok (.iastore, 1) := by decide +kernel
theorem dX10_file_49 : decode cX10_file 49 = .ok (.aload_n 0, 1) := by decide +kernel
theorem dX10_file_50 : decode cX10_file 50 = .ok (.getfield 7, 3) := by decide +kernel
theorem dX10_file_53 : decode cX10_file 53 = .ok (.bipush 24, 2) := by decide +kernel
theorem dX10_file_55 : decode cX10_file 55 = .ok (.iaload, 1) := by decide +kernel
theorem dX10_file_56 : decode cX10_file 56 = .ok (.ireturn, 1) := by decide +kernel
theorem dX10_become_0 : decode cX10_become 0 = .ok (.aload_n 0, 1) := by decide +kernel
theorem dX10_become_1 : decode cX10_become 1 = .ok (.getfield 7, 3) := by decide +kernel
theorem dX10_become_4 : decode cX10_become 4 = .ok (.iload_n 1, 1) := by decide +kernel
theorem dX10_become_5 : decode cX10_become 5 = .ok (.iaload, 1) := by decide +kernel
theorem dX10_become_6 : decode cX10_become 6 = .ok (.istore_n 3, 1) := by decide +kernel
theorem dX10_become_7 : decode cX10_become 7 = .ok (.iload_n 3, 1) := by decide +kernel
theorem dX10_become_8 : decode cX10_become 8 = .ok (.iload_n 2, 1) := by decide +kernel
theorem dX10_become_9 : decode cX10_become 9 = .ok (.if_icmp .eq 7, 3) := by decide +kernel
theorem dX10_become_12 : decode cX10_become 12 = .ok (.aload_n 0, 1) := by decide +kernel
theorem dX10_become_13 : decode cX10_become 13 = .ok (.invokevirtual 201, 3) := by decide +kernel
theorem dX10_become_16 : decode cX10_become 16 = .ok (.aload_n 0, 1) := by decide +kernel
theorem dX10_become_17 : decode cX10_become 17 = .ok (.getfield 7, 3) := by decide +kernel
theorem dX10_become_20 : decode cX10_become 20 = .ok (.iload_n 1, 1) := by decide +kernel
theorem dX10_become_21 : decode cX10_become 21 = .ok (.iload_n 2, 1) := by decide +kernel
theorem dX10_become_22 : decode cX10_become 22 = .ok (.iastore, 1) := by decide +kernel
theorem dX10_become_23 : decode cX10_become 23 = .ok (.iload_n 3, 1) := by decide +kernel
theorem dX10_become_24 : decode cX10_become 24 = .ok (.ireturn, 1) := by decide +kernel
theorem dX10_wish_0 : decode cX10_wish 0 = .ok (.aload_n 0, 1) := by decide +kernel
theorem dX10_wish_1 : decode cX10_wish 1 = .ok (.iload_n 1, 1) := by decide +kernel
theorem dX10_wish_2 : decode cX10_wish 2 = .ok (.invokevirtual 175, 3) := by decide +kernel
theorem dX10_wish_5 : decode cX10_wish 5 = .ok (.ifCond .ne 8, 3) := by decide +kernel
theorem dX10_wish_8 : decode cX10_wish 8 = .ok (.ldc 174, 2) := by decide +kernel
theorem dX10_wish_10 : decode cX10_wish 10 = .ok (.goto 26, 3) := by decide +kernel
theorem dX10_wish_13 : decode cX10_wish 13 = .ok (.iload_n 2, 1) := by decide +kernel
theorem dX10_wish_14 : decode cX10_wish 14 = .ok (.i2l, 1) := by decide +kernel
theorem dX10_wish_15 : decode cX10_wish 15 = .ok (.lconst 1, 1) := by decide +kernel
theorem dX10_wish_16 : decode cX10_wish 16 = .ok (.ldc2_w 210, 3) := by decide +kernel
theorem dX10_wish_19 : decode cX10_wish 19 = .ok (.invokestatic 68, 3) := by decide +kernel
theorem dX10_wish_22 : decode cX10_wish 22 = .ok (.ifCond .eq 12, 3) := by decide +kernel
theorem dX10_wish_25 : decode cX10_wish 25 = .ok (.aload_n 0, 1) := by decide +kernel
theorem dX10_wish_26 : decode cX10_wish 26 = .ok (.iload_n 1, 1) := by decide +kernel
theorem dX10_wish_27 : decode cX10_wish 27 = .ok (.iload_n 2, 1) := by decide +kernel
theorem dX10_wish_28 : decode cX10_wish 28 = .ok (.invokevirtual 212, 3) := by decide +kernel
theorem dX10_wish_31 : decode cX10_wish 31 = .ok (.goto 5, 3) := by decide +kernel
theorem dX10_wish_34 : decode cX10_wish 34 = .ok (.ldc 72, 2) := by decide +kernel
theorem dX10_wish_36 : decode cX10_wish 36 = .ok (.ireturn, 1) := by decide +kernel
theorem dX10_habit_0 : decode cX10_habit 0 = .ok (.aload_n 0, 1) := by decide +kernel
theorem dX10_habit_1 : decode cX10_habit 1 = .ok (.iload_n 1, 1) := by decide +kernel
theorem dX10_habit_2 : decode cX10_habit 2 = .ok (.invokevirtual 175, 3) := by decide +kernel
theorem dX10_habit_5 : decode cX10_habit 5 = .ok (.ifCond .ne 8, 3) := by decide +kernel
theorem dX10_habit_8 : decode cX10_habit 8 = .ok (.ldc 174, 2) := by decide +kernel
theorem dX10_habit_10 : decode cX10_habit 10 = .ok (.goto 29, 3) := by decide +kernel
theorem dX10_habit_13 : decode cX10_habit 13 = .ok (.iload_n 2, 1) := by decide +kernel
theorem dX10_habit_14 : decode cX10_habit 14 = .ok (.i2l, 1) := by decide +kernel
theorem dX10_habit_15 : decode cX10_habit 15 = .ok (.lconst 0, 1) := by decide +kernel
theorem dX10_habit_16 : decode cX10_habit 16 = .ok (.ldc2_w 215, 3) := by decide +kernel
theorem dX10_habit_19 : decode cX10_habit 19 = .ok (.invokestatic 68, 3) := by decide +kernel
theorem dX10_habit_22 : decode cX10_habit 22 = .ok (.ifCond .eq 15, 3) := by decide +kernel
theorem dX10_habit_25 : decode cX10_habit 25 = .ok (.aload_n 0, 1) := by decide +kernel
theorem dX10_habit_26 : decode cX10_habit 26 = .ok (.bipush 12, 2) := by decide +kernel
theorem dX10_habit_28 : decode cX10_habit 28 = .ok (.iload_n 1, 1) := by decide +kernel
theorem dX10_habit_29 : decode cX10_habit 29 = .ok (.iadd, 1) := by decide +kernel
theorem dX10_habit_30 : decode cX10_habit 30 = .ok (.iload_n 2, 1) := by decide +kernel
theorem dX10_habit_31 : decode cX10_habit 31 = .ok (.invokevirtual 212, 3) := by decide +kernel
theorem dX10_habit_34 : decode cX10_habit 34 = .ok (.goto 5, 3) := by decide +kernel
theorem dX10_habit_37 : decode cX10_habit 37 = .ok (.ldc 72, 2) := by decide +kernel
theorem dX10_habit_39 : decode cX10_habit 39 = .ok (.ireturn, 1) := by decide +kernel
theorem dX10_draw_0 : decode cX10_draw 0 = .ok (.aload_n 0, 1) := by decide +kernel
theorem dX10_draw_1 : decode cX10_draw 1 = .ok (.getfield 7, 3) := by decide +kernel
theorem dX10_draw_4 : decode cX10_draw 4 = .ok (.bipush 25, 2) := by decide +kernel
theorem dX10_draw_6 : decode cX10_draw 6 = .ok (.aload_n 0, 1) := by decide +kernel
theorem dX10_draw_7 : decode cX10_draw 7 = .ok (.getfield 7, 3) := by decide +kernel
theorem dX10_draw_10 : decode cX10_draw 10 = .ok (.bipush 25, 2) := by decide +kernel
theorem dX10_draw_12 : decode cX10_draw 12 = .ok (.iaload, 1) := by decide +kernel
theorem dX10_draw_13 : decode cX10_draw 13 = .ok (.i2l, 1) := by decide +kernel
theorem dX10_draw_14 : decode cX10_draw 14 = .ok (.ldc2_w 217, 3) := by decide +kernel
theorem dX10_draw_17 : decode cX10_draw 17 = .ok (.lmul, 1) := by decide +kernel
theorem dX10_draw_18 : decode cX10_draw 18 = .ok (.ldc2_w 219, 3) := by decide +kernel
theorem dX10_draw_21 : decode cX10_draw 21 = .ok (.ladd, 1) := by decide +kernel
theorem dX10_draw_22 : decode cX10_draw 22 = .ok (.ldc2_w 221, 3) := by decide +kernel
theorem dX10_draw_25 : decode cX10_draw 25 = .ok (.lrem, 1) := by decide +kernel
theorem dX10_draw_26 : decode cX10_draw 26 = .ok (.l2i, 1) := by decide +kernel
theorem dX10_draw_27 : decode cX10_draw 27 = .ok (.iastore, 1) := by decide +kernel
theorem dX10_draw_28 : decode cX10_draw 28 = .ok (.aload_n 0, 1) := by decide +kernel
theorem dX10_draw_29 : decode cX10_draw 29 = .ok (.getfield 7, 3) := by decide +kernel
theorem dX10_draw_32 : decode cX10_draw 32 = .ok (.bipush 25, 2) := by decide +kernel
theorem dX10_draw_34 : decode cX10_draw 34 = .ok (.iaload, 1) := by decide +kernel
theorem dX10_draw_35 : decode cX10_draw 35 = .ok (.ldc 223, 2) := by decide +kernel
theorem dX10_draw_37 : decode cX10_draw 37 = .ok (.idiv, 1) := by decide +kernel
theorem dX10_draw_38 : decode cX10_draw 38 = .ok (.iload_n 1, 1) := by decide +kernel
theorem dX10_draw_39 : decode cX10_draw 39 = .ok (.irem, 1) := by decide +kernel
theorem dX10_draw_40 : decode cX10_draw 40 = .ok (.ireturn, 1) := by decide +kernel
theorem dX10_drift_0 : decode cX10_drift 0 = .ok (.iload_n 1, 1) := by decide +kernel
theorem dX10_drift_1 : decode cX10_drift 1 = .ok (.i2l, 1) := by decide +kernel
theorem dX10_drift_2 : decode cX10_drift 2 = .ok (.lconst 1, 1) := by decide +kernel
theorem dX10_drift_3 : decode cX10_drift 3 = .ok (.ldc2_w 195, 3) := by decide +kernel
theorem dX10_drift_6 : decode cX10_drift 6 = .ok (.invokestatic 68, 3) := by decide +kernel
theorem dX10_drift_9 : decode cX10_drift 9 = .ok (.ifCond .ne 6, 3) := by decide +kernel
theorem dX10_drift_12 : decode cX10_drift 12 = .ok (.ldc 72, 2) := by decide +kernel
theorem dX10_drift_14 : decode cX10_drift 14 = .ok (.ireturn, 1) := by decide +kernel
theorem dX10_drift_15 : decode cX10_drift 15 = .ok (.aload_n 0, 1) := by decide +kernel
theorem dX10_drift_16 : decode cX10_drift 16 = .ok (.invokevirtual 197, 3) := by decide +kernel
theorem dX10_drift_19 : decode cX10_drift 19 = .ok (.ifCond .eq 11, 3) := by decide +kernel
theorem dX10_drift_22 : decode cX10_drift 22 = .ok (.aload_n 0, 1) := by decide +kernel
theorem dX10_drift_23 : decode cX10_drift 23 = .ok (.iconst 0, 1) := by decide +kernel
theorem dX10_drift_24 : decode cX10_drift 24 = .ok (.invokevirtual 166, 3) := by decide +kernel
theorem dX10_drift_27 : decode cX10_drift 27 = .ok (.ifCond .eq 6, 3) := by decide +kernel
theorem dX10_drift_30 : decode cX10_drift 30 = .ok (.ldc 194, 2) := by decide +kernel
theorem dX10_drift_32 : decode cX10_drift 32 = .ok (.ireturn, 1) := by decide +kernel
theorem dX10_drift_33 : decode cX10_drift 33 = .ok (.aload_n 0, 1) := by decide +kernel
theorem dX10_drift_34 : decode cX10_drift 34 = .ok (.invokevirtual 201, 3) := by decide +kernel
theorem dX10_drift_37 : decode cX10_drift 37 = .ok (.iconst 0, 1) := by decide +kernel
theorem dX10_drift_38 : decode cX10_drift 38 = .ok (.istore_n 2, 1) := by decide +kernel
theorem dX10_drift_39 : decode cX10_drift 39 = .ok (.iload_n 2, 1) := by decide +kernel
theorem dX10_drift_40 : decode cX10_drift 40 = .ok (.iload_n 1, 1) := by decide +kernel
theorem dX10_drift_41 : decode cX10_drift 41 = .ok (.if_icmp .ge 60, 3) := by decide +kernel
theorem dX10_drift_44 : decode cX10_drift 44 = .ok (.aload_n 0, 1) := by decide +kernel
theorem dX10_drift_45 : decode cX10_drift 45 = .ok (.iconst 0, 1) := by decide +kernel
theorem dX10_drift_46 : decode cX10_drift 46 = .ok (.invokevirtual 166, 3) := by decide +kernel
theorem dX10_drift_49 : decode cX10_drift 49 = .ok (.ifCond .ne 52, 3) := by decide +kernel
theorem dX10_drift_52 : decode cX10_drift 52 = .ok (.aload_n 0, 1) := by decide +kernel
theorem dX10_drift_53 : decode cX10_drift 53 = .ok (.bipush 8, 2) := by decide +kernel
theorem dX10_drift_55 : decode cX10_drift 55 = .ok (.invokevirtual 224, 3) := by decide +kernel
theorem dX10_drift_58 : decode cX10_drift 58 = .ok (.istore_n 3, 1) := by decide +kernel
theorem dX10_drift_59 : decode cX10_drift 59 = .ok (.iload_n 3, 1) := by decide +kernel
theorem dX10_drift_60 : decode cX10_drift 60 = .ok (.ifCond .ne 12, 3) := by decide +kernel
theorem dX10_drift_63 : decode cX10_drift 63 = .ok (.aload_n 0, 1) := by decide +kernel
theorem dX10_drift_64 : decode cX10_drift 64 = .ok (.iconst 0, 1) := by decide +kernel
theorem dX10_drift_65 : decode cX10_drift 65 = .ok (.iconst 1, 1) := by decide +kernel
theorem dX10_drift_66 : decode cX10_drift 66 = .ok (.invokevirtual 207, 3) := by decide +kernel
theorem dX10_drift_69 : decode cX10_drift 69 = .ok (.goto 26, 3) := by decide +kernel
theorem dX10_drift_72 : decode cX10_drift 72 = .ok (.iload_n 3, 1) := by decide +kernel
theorem dX10_drift_73 : decode cX10_drift 73 = .ok (.iconst 1, 1) := by decide +kernel
theorem dX10_drift_74 : decode cX10_drift 74 = .ok (.if_icmp .ne 14, 3) := by decide +kernel
theorem dX10_drift_77 : decode cX10_drift 77 = .ok (.aload_n 0, 1) := by decide +kernel
theorem dX10_drift_78 : decode cX10_drift 78 = .ok (.getfield 7, 3) := by decide +kernel
theorem dX10_drift_81 : decode cX10_drift 81 = .ok (.bipush 22, 2) := by decide +kernel
theorem dX10_drift_83 : decode cX10_drift 83 = .ok (.iconst 0, 1) := by decide +kernel
theorem dX10_drift_84 : decode cX10_drift 84 = .ok (.iastore, 1) := by decide +kernel
theorem dX10_drift_85 : decode cX10_drift 85 = .ok (.goto 10, 3) := by decide +kernel
theorem dX10_drift_88 : decode cX10_drift 88 = .ok (.aload_n 0, 1) := by decide +kernel
theorem dX10_drift_89 : decode cX10_drift 89 = .ok (.iconst 0, 1) := by decide +kernel
theorem dX10_drift_90 : decode cX10_drift 90 = .ok (.invokevirtual 204, 3) := by decide +kernel
theorem dX10_drift_93 : decode cX10_drift 93 = .ok (.istore 4, 2) := by decide +kernel
theorem dX10_drift_95 : decode cX10_drift 95 = .ok (.iinc 2 1, 3) := by decide +kernel
theorem dX10_drift_98 : decode cX10_drift 98 = .ok (.goto (-59), 3) := by decide +kernel
theorem dX10_drift_101 : decode cX10_drift 101 = .ok (.aload_n 0, 1) := by decide +kernel
theorem dX10_drift_102 : decode cX10_drift 102 = .ok (.getfield 7, 3) := by decide +kernel
theorem dX10_drift_105 : decode cX10_drift 105 = .ok (.bipush 19, 2) := by decide +kernel
theorem dX10_drift_107 : decode cX10_drift 107 = .ok (.iaload, 1) := by decide +kernel
theorem dX10_drift_108 : decode cX10_drift 108 = .ok (.ireturn, 1) := by decide +kernel
theorem dX10_undo_0 : decode cX10_undo 0 = .ok (.iload_n 1, 1) := by decide +kernel
theorem dX10_undo_1 : decode cX10_undo 1 = .ok (.i2l, 1) := by decide +kernel
theorem dX10_undo_2 : decode cX10_undo 2 = .ok (.lconst 1, 1) := by decide +kernel
theorem dX10_undo_3 : decode cX10_undo 3 = .ok (.ldc2_w 227, 3) := by decide +kernel
theorem dX10_undo_6 : decode cX10_undo 6 = .ok (.invokestatic 68, 3) := by decide +kernel
theorem dX10_undo_9 : decode cX10_undo 9 = .ok (.ifCond .ne 6, 3) := by decide +kernel
theorem dX10_undo_12 : decode cX10_undo 12 = .ok (.ldc 72, 2) := by decide +kernel
theorem dX10_undo_14 : decode cX10_undo 14 = .ok (.ireturn, 1) := by decide +kernel
theorem dX10_undo_15 : decode cX10_undo 15 = .ok (.iload_n 1, 1) := by decide +kernel
theorem dX10_undo_16 : decode cX10_undo 16 = .ok (.aload_n 0, 1) := by decide +kernel
theorem dX10_undo_17 : decode cX10_undo 17 = .ok (.getfield 163, 3) := by decide +kernel
theorem dX10_undo_20 : decode cX10_undo 20 = .ok (.if_icmp .le 6, 3) := by decide +kernel
theorem dX10_undo_23 : decode cX10_undo 23 = .ok (.ldc 194, 2) := by decide +kernel
theorem dX10_undo_25 : decode cX10_undo 25 = .ok (.ireturn, 1) := by decide +kernel
theorem dX10_undo_26 : decode cX10_undo 26 = .ok (.aload_n 0, 1) := by decide +kernel
theorem dX10_undo_27 : decode cX10_undo 27 = .ok (.dup, 1) := by decide +kernel
theorem dX10_undo_28 : decode cX10_undo 28 = .ok (.getfield 163, 3) := by decide +kernel
theorem dX10_undo_31 : decode cX10_undo 31 = .ok (.iload_n 1, 1) := by decide +kernel
theorem dX10_undo_32 : decode cX10_undo 32 = .ok (.isub, 1) := by decide +kernel
theorem dX10_undo_33 : decode cX10_undo 33 = .ok (.putfield 163, 3) := by decide +kernel
theorem dX10_undo_36 : decode cX10_undo 36 = .ok (.aload_n 0, 1) := by decide +kernel
theorem dX10_undo_37 : decode cX10_undo 37 = .ok (.getfield 7, 3) := by decide +kernel
theorem dX10_undo_40 : decode cX10_undo 40 = .ok (.bipush 25, 2) := by decide +kernel
theorem dX10_undo_42 : decode cX10_undo 42 = .ok (.iaload, 1) := by decide +kernel
theorem dX10_undo_43 : decode cX10_undo 43 = .ok (.istore_n 2, 1) := by decide +kernel
theorem dX10_undo_44 : decode cX10_undo 44 = .ok (.aload_n 0, 1) := by decide +kernel
theorem dX10_undo_45 : decode cX10_undo 45 = .ok (.bipush 112, 2) := by decide +kernel
theorem dX10_undo_47 : decode cX10_undo 47 = .ok (.bipush 28, 2) := by decide +kernel
theorem dX10_undo_49 : decode cX10_undo 49 = .ok (.aload_n 0, 1) := by decide +kernel
theorem dX10_undo_50 : decode cX10_undo 50 = .ok (.getfield 163, 3) := by decide +kernel
theorem dX10_undo_53 : decode cX10_undo 53 = .ok (.imul, 1) := by decide +kernel
theorem dX10_undo_54 : decode cX10_undo 54 = .ok (.iadd, 1) := by decide +kernel
theorem dX10_undo_55 : decode cX10_undo 55 = .ok (.iconst 0, 1) := by decide +kernel
theorem dX10_undo_56 : decode cX10_undo 56 = .ok (.invokevirtual 191, 3) := by decide +kernel
theorem dX10_undo_59 : decode cX10_undo 59 = .ok (.aload_n 0, 1) := by decide +kernel
theorem dX10_undo_60 : decode cX10_undo 60 = .ok (.getfield 7, 3) := by decide +kernel
theorem dX10_undo_63 : decode cX10_undo 63 = .ok (.bipush 25, 2) := by decide +kernel
theorem dX10_undo_65 : decode cX10_undo 65 = .ok (.iload_n 2, 1) := by decide +kernel
theorem dX10_undo_66 : decode cX10_undo 66 = .ok (.iastore, 1) := by decide +kernel
theorem dX10_undo_67 : decode cX10_undo 67 = .ok (.aload_n 0, 1) := by decide +kernel
theorem dX10_undo_68 : decode cX10_undo 68 = .ok (.getfield 7, 3) := by decide +kernel
theorem dX10_undo_71 : decode cX10_undo 71 = .ok (.bipush 20, 2) := by decide +kernel
theorem dX10_undo_73 : decode cX10_undo 73 = .ok (.iaload, 1) := by decide +kernel
theorem dX10_undo_74 : decode cX10_undo 74 = .ok (.ireturn, 1) := by decide +kernel
theorem dX10_goOn_0 : decode cX10_goOn 0 = .ok (.iconst 0, 1) := by decide +kernel
theorem dX10_goOn_1 : decode cX10_goOn 1 = .ok (.istore_n 2, 1) := by decide +kernel
theorem dX10_goOn_2 : decode cX10_goOn 2 = .ok (.iload_n 2, 1) := by decide +kernel
theorem dX10_goOn_3 : decode cX10_goOn 3 = .ok (.iload_n 1, 1) := by decide +kernel
theorem dX10_goOn_4 : decode cX10_goOn 4 = .ok (.if_icmp .ge 25, 3) := by decide +kernel
theorem dX10_goOn_7 : decode cX10_goOn 7 = .ok (.aload_n 0, 1) := by decide +kernel
theorem dX10_goOn_8 : decode cX10_goOn 8 = .ok (.bipush 28, 2) := by decide +kernel
theorem dX10_goOn_10 : decode cX10_goOn 10 = .ok (.invokevirtual 166, 3) := by decide +kernel
theorem dX10_goOn_13 : decode cX10_goOn 13 = .ok (.ifCond .ne 16, 3) := by decide +kernel
theorem dX10_goOn_16 : decode cX10_goOn 16 = .ok (.aload_n 0, 1) := by decide +kernel
theorem dX10_goOn_17 : decode cX10_goOn 17 = .ok (.bipush 28, 2) := by decide +kernel
theorem dX10_goOn_19 : decode cX10_goOn 19 = .ok (.invokevirtual 204, 3) := by decide +kernel
theorem dX10_goOn_22 : decode cX10_goOn 22 = .ok (.istore_n 3, 1) := by decide +kernel
theorem dX10_goOn_23 : decode cX10_goOn 23 = .ok (.iinc 2 1, 3) := by decide +kernel
theorem dX10_goOn_26 : decode cX10_goOn 26 = .ok (.goto (-24), 3) := by decide +kernel
theorem dX10_goOn_29 : decode cX10_goOn 29 = .ok (.aload_n 0, 1) := by decide +kernel
theorem dX10_goOn_30 : decode cX10_goOn 30 = .ok (.bipush 28, 2) := by decide +kernel
theorem dX10_goOn_32 : decode cX10_goOn 32 = .ok (.invokevirtual 166, 3) := by decide +kernel
theorem dX10_goOn_35 : decode cX10_goOn 35 = .ok (.ifCond .eq 7, 3) := by decide +kernel
theorem dX10_goOn_38 : decode cX10_goOn 38 = .ok (.iload_n 2, 1) := by decide +kernel
theorem dX10_goOn_39 : decode cX10_goOn 39 = .ok (.goto 5, 3) := by decide +kernel
theorem dX10_goOn_42 : decode cX10_goOn 42 = .ok (.ldc 229, 2) := by decide +kernel
theorem dX10_goOn_44 : decode cX10_goOn 44 = .ok (.ireturn, 1) := by decide +kernel
theorem dX10_goOnNow_0 : decode cX10_goOnNow 0 = .ok (.aload_n 0, 1) := by decide +kernel
theorem dX10_goOnNow_1 : decode cX10_goOnNow 1 = .ok (.iconst 0, 1) := by decide +kernel
theorem dX10_goOnNow_2 : decode cX10_goOnNow 2 = .ok (.bipush 28, 2) := by decide +kernel
theorem dX10_goOnNow_4 : decode cX10_goOnNow 4 = .ok (.invokevirtual 191, 3) := by decide +kernel
theorem dX10_goOnNow_7 : decode cX10_goOnNow 7 = .ok (.aload_n 0, 1) := by decide +kernel
theorem dX10_goOnNow_8 : decode cX10_goOnNow 8 = .ok (.sipush 999, 3) := by decide +kernel
theorem dX10_goOnNow_11 : decode cX10_goOnNow 11 = .ok (.invokevirtual 230, 3) := by decide +kernel
theorem dX10_goOnNow_14 : decode cX10_goOnNow 14 = .ok (.ireturn, 1) := by decide +kernel
theorem dX10_toGo_0 : decode cX10_toGo 0 = .ok (.aload_n 0, 1) := by decide +kernel
theorem dX10_toGo_1 : decode cX10_toGo 1 = .ok (.invokevirtual 197, 3) := by decide +kernel
theorem dX10_toGo_4 : decode cX10_toGo 4 = .ok (.ifCond .ne 6, 3) := by decide +kernel
theorem dX10_toGo_7 : decode cX10_toGo 7 = .ok (.ldc 194, 2) := by decide +kernel
theorem dX10_toGo_9 : decode cX10_toGo 9 = .ok (.ireturn, 1) := by decide +kernel
theorem dX10_toGo_10 : decode cX10_toGo 10 = .ok (.aload_n 0, 1) := by decide +kernel
theorem dX10_toGo_11 : decode cX10_toGo 11 = .ok (.invokevirtual 233, 3) := by decide +kernel
theorem dX10_toGo_14 : decode cX10_toGo 14 = .ok (.istore_n 1, 1) := by decide +kernel
theorem dX10_toGo_15 : decode cX10_toGo 15 = .ok (.iload_n 1, 1) := by decide +kernel
theorem dX10_toGo_16 : decode cX10_toGo 16 = .ok (.ldc 229, 2) := by decide +kernel
theorem dX10_toGo_18 : decode cX10_toGo 18 = .ok (.if_icmp .ne 7, 3) := by decide +kernel
theorem dX10_toGo_21 : decode cX10_toGo 21 = .ok (.iconst (-1), 1) := by decide +kernel
theorem dX10_toGo_22 : decode cX10_toGo 22 = .ok (.goto 4, 3) := by decide +kernel
theorem dX10_toGo_25 : decode cX10_toGo 25 = .ok (.iload_n 1, 1) := by decide +kernel
theorem dX10_toGo_26 : decode cX10_toGo 26 = .ok (.ireturn, 1) := by decide +kernel
theorem dX10_beginFresh_0 : decode cX10_beginFresh 0 = .ok (.aload_n 0, 1) := by decide +kernel
theorem dX10_beginFresh_1 : decode cX10_beginFresh 1 = .ok (.iconst 0, 1) := by decide +kernel
theorem dX10_beginFresh_2 : decode cX10_beginFresh 2 = .ok (.bipush 28, 2) := by decide +kernel
theorem dX10_beginFresh_4 : decode cX10_beginFresh 4 = .ok (.invokevirtual 191, 3) := by decide +kernel
theorem dX10_beginFresh_7 : decode cX10_beginFresh 7 = .ok (.aload_n 0, 1) := by decide +kernel
theorem dX10_beginFresh_8 : decode cX10_beginFresh 8 = .ok (.bipush 28, 2) := by decide +kernel
theorem dX10_beginFresh_10 : decode cX10_beginFresh 10 = .ok (.iload_n 1, 1) := by decide +kernel
theorem dX10_beginFresh_11 : decode cX10_beginFresh 11 = .ok (.iload_n 2, 1) := by decide +kernel
theorem dX10_beginFresh_12 : decode cX10_beginFresh 12 = .ok (.invokevirtual 153, 3) := by decide +kernel
theorem dX10_beginFresh_15 : decode cX10_beginFresh 15 = .ok (.aload_n 0, 1) := by decide +kernel
theorem dX10_beginFresh_16 : decode cX10_beginFresh 16 = .ok (.getfield 7, 3) := by decide +kernel
theorem dX10_beginFresh_19 : decode cX10_beginFresh 19 = .ok (.bipush 28, 2) := by decide +kernel
theorem dX10_beginFresh_21 : decode cX10_beginFresh 21 = .ok (.iload_n 1, 1) := by decide +kernel
theorem dX10_beginFresh_22 : decode cX10_beginFresh 22 = .ok (.iadd, 1) := by decide +kernel
theorem dX10_beginFresh_23 : decode cX10_beginFresh 23 = .ok (.aload_n 0, 1) := by decide +kernel
theorem dX10_beginFresh_24 : decode cX10_beginFresh 24 = .ok (.getfield 20, 3) := by decide +kernel
theorem dX10_beginFresh_27 : decode cX10_beginFresh 27 = .ok (.iload_n 1, 1) := by decide +kernel
theorem dX10_beginFresh_28 : decode cX10_beginFresh 28 = .ok (.iaload, 1) := by decide +kernel
theorem dX10_beginFresh_29 : decode cX10_beginFresh 29 = .ok (.iastore, 1) := by decide +kernel
theorem dX10_beginFresh_30 : decode cX10_beginFresh 30 = .ok (.aload_n 0, 1) := by decide +kernel
theorem dX10_beginFresh_31 : decode cX10_beginFresh 31 = .ok (.getfield 7, 3) := by decide +kernel
theorem dX10_beginFresh_34 : decode cX10_beginFresh 34 = .ok (.bipush 28, 2) := by decide +kernel
theorem dX10_beginFresh_36 : decode cX10_beginFresh 36 = .ok (.iload_n 2, 1) := by decide +kernel
theorem dX10_beginFresh_37 : decode cX10_beginFresh 37 = .ok (.iadd, 1) := by decide +kernel
theorem dX10_beginFresh_38 : decode cX10_beginFresh 38 = .ok (.aload_n 0, 1) := by decide +kernel
theorem dX10_beginFresh_39 : decode cX10_beginFresh 39 = .ok (.getfield 20, 3) := by decide +kernel
theorem dX10_beginFresh_42 : decode cX10_beginFresh 42 = .ok (.iload_n 2, 1) := by decide +kernel
theorem dX10_beginFresh_43 : decode cX10_beginFresh 43 = .ok (.iaload, 1) := by decide +kernel
theorem dX10_beginFresh_44 : decode cX10_beginFresh 44 = .ok (.iastore, 1) := by decide +kernel
theorem dX10_beginFresh_45 : decode cX10_beginFresh 45 = .ok (.return_, 1) := by decide +kernel
theorem dX10_freshOf_0 : decode cX10_freshOf 0 = .ok (.aload_n 0, 1) := by decide +kernel
theorem dX10_freshOf_1 : decode cX10_freshOf 1 = .ok (.iload_n 1, 1) := by decide +kernel
theorem dX10_freshOf_2 : decode cX10_freshOf 2 = .ok (.iload_n 2, 1) := by decide +kernel
theorem dX10_freshOf_3 : decode cX10_freshOf 3 = .ok (.invokevirtual 236, 3) := by decide +kernel
theorem dX10_freshOf_6 : decode cX10_freshOf 6 = .ok (.aload_n 0, 1) := by decide +kernel
theorem dX10_freshOf_7 : decode cX10_freshOf 7 = .ok (.sipush 999, 3) := by decide +kernel
theorem dX10_freshOf_10 : decode cX10_freshOf 10 = .ok (.invokevirtual 230, 3) := by decide +kernel
theorem dX10_freshOf_13 : decode cX10_freshOf 13 = .ok (.ireturn, 1) := by decide +kernel
theorem dX10_refusedTwo_0 : decode cX10_refusedTwo 0 = .ok (.aload_n 0, 1) := by decide +kernel
theorem dX10_refusedTwo_1 : decode cX10_refusedTwo 1 = .ok (.iload_n 1, 1) := by decide +kernel
theorem dX10_refusedTwo_2 : decode cX10_refusedTwo 2 = .ok (.invokevirtual 175, 3) := by decide +kernel
theorem dX10_refusedTwo_5 : decode cX10_refusedTwo 5 = .ok (.ifCond .eq 16, 3) := by decide +kernel
theorem dX10_refusedTwo_8 : decode cX10_refusedTwo 8 = .ok (.aload_n 0, 1) := by decide +kernel
theorem dX10_refusedTwo_9 : decode cX10_refusedTwo 9 = .ok (.iload_n 2, 1) := by decide +kernel
theorem dX10_refusedTwo_10 : decode cX10_refusedTwo 10 = .ok (.invokevirtual 175, 3) := by decide +kernel
theorem dX10_refusedTwo_13 : decode cX10_refusedTwo 13 = .ok (.ifCond .eq 8, 3) := by decide +kernel
theorem dX10_refusedTwo_16 : decode cX10_refusedTwo 16 = .ok (.iload_n 1, 1) := by decide +kernel
theorem dX10_refusedTwo_17 : decode cX10_refusedTwo 17 = .ok (.iload_n 2, 1) := by decide +kernel
theorem dX10_refusedTwo_18 : decode cX10_refusedTwo 18 = .ok (.if_icmp .ne 8, 3) := by decide +kernel
theorem dX10_refusedTwo_21 : decode cX10_refusedTwo 21 = .ok (.ldc 174, 2) := by decide +kernel
theorem dX10_refusedTwo_23 : decode cX10_refusedTwo 23 = .ok (.goto 16, 3) := by decide +kernel
theorem dX10_refusedTwo_26 : decode cX10_refusedTwo 26 = .ok (.aload_n 0, 1) := by decide +kernel
theorem dX10_refusedTwo_27 : decode cX10_refusedTwo 27 = .ok (.getfield 144, 3) := by decide +kernel
theorem dX10_refusedTwo_30 : decode cX10_refusedTwo 30 = .ok (.ifCond .ne 8, 3) := by decide +kernel
theorem dX10_refusedTwo_33 : decode cX10_refusedTwo 33 = .ok (.ldc 194, 2) := by decide +kernel
theorem dX10_refusedTwo_35 : decode cX10_refusedTwo 35 = .ok (.goto 4, 3) := by decide +kernel
theorem dX10_refusedTwo_38 : decode cX10_refusedTwo 38 = .ok (.iconst 0, 1) := by decide +kernel
theorem dX10_refusedTwo_39 : decode cX10_refusedTwo 39 = .ok (.ireturn, 1) := by decide +kernel
theorem dX10_fresh_0 : decode cX10_fresh 0 = .ok (.aload_n 0, 1) := by decide +kernel
theorem dX10_fresh_1 : decode cX10_fresh 1 = .ok (.iload_n 1, 1) := by decide +kernel
theorem dX10_fresh_2 : decode cX10_fresh 2 = .ok (.iload_n 2, 1) := by decide +kernel
theorem dX10_fresh_3 : decode cX10_fresh 3 = .ok (.invokevirtual 239, 3) := by decide +kernel
theorem dX10_fresh_6 : decode cX10_fresh 6 = .ok (.ifCond .ge 10, 3) := by decide +kernel
theorem dX10_fresh_9 : decode cX10_fresh 9 = .ok (.aload_n 0, 1) := by decide +kernel
theorem dX10_fresh_10 : decode cX10_fresh 10 = .ok (.iload_n 1, 1) := by decide +kernel
theorem dX10_fresh_11 : decode cX10_fresh 11 = .ok (.iload_n 2, 1) := by decide +kernel
theorem dX10_fresh_12 : decode cX10_fresh 12 = .ok (.invokevirtual 239, 3) := by decide +kernel
theorem dX10_fresh_15 : decode cX10_fresh 15 = .ok (.ireturn, 1) := by decide +kernel
theorem dX10_fresh_16 : decode cX10_fresh 16 = .ok (.aload_n 0, 1) := by decide +kernel
theorem dX10_fresh_17 : decode cX10_fresh 17 = .ok (.iload_n 1, 1) := by decide +kernel
theorem dX10_fresh_18 : decode cX10_fresh 18 = .ok (.iload_n 2, 1) := by decide +kernel
theorem dX10_fresh_19 : decode cX10_fresh 19 = .ok (.invokevirtual 242, 3) := by decide +kernel
theorem dX10_fresh_22 : decode cX10_fresh 22 = .ok (.istore_n 3, 1) := by decide +kernel
theorem dX10_fresh_23 : decode cX10_fresh 23 = .ok (.iload_n 3, 1) := by decide +kernel
theorem dX10_fresh_24 : decode cX10_fresh 24 = .ok (.ldc 229, 2) := by decide +kernel
theorem dX10_fresh_26 : decode cX10_fresh 26 = .ok (.if_icmp .ne 7, 3) := by decide +kernel
theorem dX10_fresh_29 : decode cX10_fresh 29 = .ok (.iconst (-1), 1) := by decide +kernel
theorem dX10_fresh_30 : decode cX10_fresh 30 = .ok (.goto 4, 3) := by decide +kernel
theorem dX10_fresh_33 : decode cX10_fresh 33 = .ok (.iload_n 3, 1) := by decide +kernel
theorem dX10_fresh_34 : decode cX10_fresh 34 = .ok (.ireturn, 1) := by decide +kernel
theorem dX10_wishes_0 : decode cX10_wishes 0 = .ok (.aload_n 0, 1) := by decide +kernel
theorem dX10_wishes_1 : decode cX10_wishes 1 = .ok (.iload_n 1, 1) := by decide +kernel
theorem dX10_wishes_2 : decode cX10_wishes 2 = .ok (.invokevirtual 175, 3) := by decide +kernel
theorem dX10_wishes_5 : decode cX10_wishes 5 = .ok (.ifCond .eq 16, 3) := by decide +kernel
theorem dX10_wishes_8 : decode cX10_wishes 8 = .ok (.aload_n 0, 1) := by decide +kernel
theorem dX10_wishes_9 : decode cX10_wishes 9 = .ok (.iload_n 2, 1) := by decide +kernel
theorem dX10_wishes_10 : decode cX10_wishes 10 = .ok (.invokevirtual 175, 3) := by decide +kernel
theorem dX10_wishes_13 : decode cX10_wishes 13 = .ok (.ifCond .eq 8, 3) := by decide +kernel
theorem dX10_wishes_16 : decode cX10_wishes 16 = .ok (.iload_n 1, 1) := by decide +kernel
theorem dX10_wishes_17 : decode cX10_wishes 17 = .ok (.iload_n 2, 1) := by decide +kernel
theorem dX10_wishes_18 : decode cX10_wishes 18 = .ok (.if_icmp .ne 6, 3) := by decide +kernel
theorem dX10_wishes_21 : decode cX10_wishes 21 = .ok (.ldc 174, 2) := by decide +kernel
theorem dX10_wishes_23 : decode cX10_wishes 23 = .ok (.ireturn, 1) := by decide +kernel
theorem dX10_wishes_24 : decode cX10_wishes 24 = .ok (.iload_n 3, 1) := by decide +kernel
theorem dX10_wishes_25 : decode cX10_wishes 25 = .ok (.i2l, 1) := by decide +kernel
theorem dX10_wishes_26 : decode cX10_wishes 26 = .ok (.lconst 0, 1) := by decide +kernel
theorem dX10_wishes_27 : decode cX10_wishes 27 = .ok (.ldc2_w 245, 3) := by decide +kernel
theorem dX10_wishes_30 : decode cX10_wishes 30 = .ok (.invokestatic 68, 3) := by decide +kernel
theorem dX10_wishes_33 : decode cX10_wishes 33 = .ok (.ifCond .ne 6, 3) := by decide +kernel
theorem dX10_wishes_36 : decode cX10_wishes 36 = .ok (.ldc 72, 2) := by decide +kernel
theorem dX10_wishes_38 : decode cX10_wishes 38 = .ok (.ireturn, 1) := by decide +kernel
theorem dX10_wishes_39 : decode cX10_wishes 39 = .ok (.aload_n 0, 1) := by decide +kernel
theorem dX10_wishes_40 : decode cX10_wishes 40 = .ok (.getfield 144, 3) := by decide +kernel
theorem dX10_wishes_43 : decode cX10_wishes 43 = .ok (.ifCond .ne 6, 3) := by decide +kernel
theorem dX10_wishes_46 : decode cX10_wishes 46 = .ok (.ldc 194, 2) := by decide +kernel
theorem dX10_wishes_48 : decode cX10_wishes 48 = .ok (.ireturn, 1) := by decide +kernel
theorem dX10_wishes_49 : decode cX10_wishes 49 = .ok (.iconst (-1), 1) := by decide +kernel
theorem dX10_wishes_50 : decode cX10_wishes 50 = .ok (.istore 4, 2) := by decide +kernel
theorem dX10_wishes_52 : decode cX10_wishes 52 = .ok (.ldc 229, 2) := by decide +kernel
theorem dX10_wishes_54 : decode cX10_wishes 54 = .ok (.istore 5, 2) := by decide +kernel
theorem dX10_wishes_56 : decode cX10_wishes 56 = .ok (.iconst 0, 1) := by decide +kernel
theorem dX10_wishes_57 : decode cX10_wishes 57 = .ok (.istore 6, 2) := by decide +kernel
theorem dX10_wishes_59 : decode cX10_wishes 59 = .ok (.iload 6, 2) := by decide +kernel
theorem dX10_wishes_61 : decode cX10_wishes 61 = .ok (.sipush 400, 3) := by decide +kernel
theorem dX10_wishes_64 : decode cX10_wishes 64 = .ok (.if_icmp .ge 71, 3) := by decide +kernel
theorem dX10_wishes_67 : decode cX10_wishes 67 = .ok (.aload_n 0, 1) := by decide +kernel
theorem dX10_wishes_68 : decode cX10_wishes 68 = .ok (.iload_n 1, 1) := by decide +kernel
theorem dX10_wishes_69 : decode cX10_wishes 69 = .ok (.iload_n 2, 1) := by decide +kernel
theorem dX10_wishes_70 : decode cX10_wishes 70 = .ok (.invokevirtual 236, 3) := by decide +kernel
theorem dX10_wishes_73 : decode cX10_wishes 73 = .ok (.aload_n 0, 1) := by decide +kernel
theorem dX10_wishes_74 : decode cX10_wishes 74 = .ok (.getfield 7, 3) := by decide +kernel
theorem dX10_wishes_77 : decode cX10_wishes 77 = .ok (.bipush 28, 2) := by decide +kernel
theorem dX10_wishes_79 : decode cX10_wishes 79 = .ok (.iload_n 1, 1) := by decide +kernel
theorem dX10_wishes_80 : decode cX10_wishes 80 = .ok (.iadd, 1) := by decide +kernel
theorem dX10_wishes_81 : decode cX10_wishes 81 = .ok (.iconst 1, 1) := by decide +kernel
theorem dX10_wishes_82 : decode cX10_wishes 82 = .ok (.iload 6, 2) := by decide +kernel
theorem dX10_wishes_84 : decode cX10_wishes 84 = .ok (.bipush 20, 2) := by decide +kernel
theorem dX10_wishes_86 : decode cX10_wishes 86 = .ok (.idiv, 1) := by decide +kernel
theorem dX10_wishes_87 : decode cX10_wishes 87 = .ok (.iadd, 1) := by decide +kernel
theorem dX10_wishes_88 : decode cX10_wishes 88 = .ok (.iastore, 1) := by decide +kernel
theorem dX10_wishes_89 : decode cX10_wishes 89 = .ok (.aload_n 0, 1) := by decide +kernel
theorem dX10_wishes_90 : decode cX10_wishes 90 = .ok (.getfield 7, 3) := by decide +kernel
theorem dX10_wishes_93 : decode cX10_wishes 93 = .ok (.bipush 28, 2) := by decide +kernel
theorem dX10_wishes_95 : decode cX10_wishes 95 = .ok (.iload_n 2, 1) := by decide +kernel
theorem dX10_wishes_96 : decode cX10_wishes 96 = .ok (.iadd, 1) := by decide +kernel
theorem dX10_wishes_97 : decode cX10_wishes 97 = .ok (.iconst 1, 1) := by decide +kernel
theorem dX10_wishes_98 : decode cX10_wishes 98 = .ok (.iload 6, 2) := by decide +kernel
theorem dX10_wishes_100 : decode cX10_wishes 100 = .ok (.bipush 20, 2) := by decide +kernel
theorem dX10_wishes_102 : decode cX10_wishes 102 = .ok (.irem, 1) := by decide +kernel
theorem dX10_wishes_103 : decode cX10_wishes 103 = .ok (.iadd, 1) := by decide +kernel
theorem dX10_wishes_104 : decode cX10_wishes 104 = .ok (.iastore, 1) := by decide +kernel
theorem dX10_wishes_105 : decode cX10_wishes 105 = .ok (.aload_n 0, 1) := by decide +kernel
theorem dX10_wishes_106 : decode cX10_wishes 106 = .ok (.sipush 999, 3) := by decide +kernel
theorem dX10_wishes_109 : decode cX10_wishes 109 = .ok (.invokevirtual 230, 3) := by decide +kernel
theorem dX10_wishes_112 : decode cX10_wishes 112 = .ok (.istore 7, 2) := by decide +kernel
theorem dX10_wishes_114 : decode cX10_wishes 114 = .ok (.iload 7, 2) := by decide +kernel
theorem dX10_wishes_116 : decode cX10_wishes 116 = .ok (.iload 5, 2) := by decide +kernel
theorem dX10_wishes_118 : decode cX10_wishes 118 = .ok (.if_icmp .ge 11, 3) := by decide +kernel
theorem dX10_wishes_121 : decode cX10_wishes 121 = .ok (.iload 6, 2) := by decide +kernel
theorem dX10_wishes_123 : decode cX10_wishes 123 = .ok (.istore 4, 2) := by decide +kernel
theorem dX10_wishes_125 : decode cX10_wishes 125 = .ok (.iload 7, 2) := by decide +kernel
theorem dX10_wishes_127 : decode cX10_wishes 127 = .ok (.istore 5, 2) := by decide +kernel
theorem dX10_wishes_129 : decode cX10_wishes 129 = .ok (.iinc 6 1, 3) := by decide +kernel
theorem dX10_wishes_132 : decode cX10_wishes 132 = .ok (.goto (-73), 3) := by decide +kernel
theorem dX10_wishes_135 : decode cX10_wishes 135 = .ok (.iload 4, 2) := by decide +kernel
theorem dX10_wishes_137 : decode cX10_wishes 137 = .ok (.ifCond .ge 7, 3) := by decide +kernel
theorem dX10_wishes_140 : decode cX10_wishes 140 = .ok (.iconst (-1), 1) := by decide +kernel
theorem dX10_wishes_141 : decode cX10_wishes 141 = .ok (.goto 34, 3) := by decide +kernel
theorem dX10_wishes_144 : decode cX10_wishes 144 = .ok (.iload_n 3, 1) := by decide +kernel
theorem dX10_wishes_145 : decode cX10_wishes 145 = .ok (.ifCond .ne 8, 3) := by decide +kernel
theorem dX10_wishes_148 : decode cX10_wishes 148 = .ok (.iload 5, 2) := by decide +kernel
theorem dX10_wishes_150 : decode cX10_wishes 150 = .ok (.goto 25, 3) := by decide +kernel
theorem dX10_wishes_153 : decode cX10_wishes 153 = .ok (.iload_n 3, 1) := by decide +kernel
theorem dX10_wishes_154 : decode cX10_wishes 154 = .ok (.iconst 1, 1) := by decide +kernel
theorem dX10_wishes_155 : decode cX10_wishes 155 = .ok (.if_icmp .ne 13, 3) := by decide +kernel
theorem dX10_wishes_158 : decode cX10_wishes 158 = .ok (.iconst 1, 1) := by decide +kernel
theorem dX10_wishes_159 : decode cX10_wishes 159 = .ok (.iload 4, 2) := by decide +kernel
theorem dX10_wishes_161 : decode cX10_wishes 161 = .ok (.bipush 20, 2) := by decide +kernel
theorem dX10_wishes_163 : decode cX10_wishes 163 = .ok (.idiv, 1) := by decide +kernel
theorem dX10_wishes_164 : decode cX10_wishes 164 = .ok (.iadd, 1) := by decide +kernel
theorem dX10_wishes_165 : decode cX10_wishes 165 = .ok (.goto 10, 3) := by decide +kernel
theorem dX10_wishes_168 : decode cX10_wishes 168 = .ok (.iconst 1, 1) := by decide +kernel
theorem dX10_wishes_169 : decode cX10_wishes 169 = .ok (.iload 4, 2) := by decide +kernel
theorem dX10_wishes_171 : decode cX10_wishes 171 = .ok (.bipush 20, 2) := by decide +kernel
theorem dX10_wishes_173 : decode cX10_wishes 173 = .ok (.irem, 1) := by decide +kernel
theorem dX10_wishes_174 : decode cX10_wishes 174 = .ok (.iadd, 1) := by decide +kernel
theorem dX10_wishes_175 : decode cX10_wishes 175 = .ok (.ireturn, 1) := by decide +kernel
theorem dX10_quarrels_0 : decode cX10_quarrels 0 = .ok (.aload_n 0, 1) := by decide +kernel
theorem dX10_quarrels_1 : decode cX10_quarrels 1 = .ok (.getfield 7, 3) := by decide +kernel
theorem dX10_quarrels_4 : decode cX10_quarrels 4 = .ok (.bipush 36, 2) := by decide +kernel
theorem dX10_quarrels_6 : decode cX10_quarrels 6 = .ok (.iload_n 1, 1) := by decide +kernel
theorem dX10_quarrels_7 : decode cX10_quarrels 7 = .ok (.iadd, 1) := by decide +kernel
theorem dX10_quarrels_8 : decode cX10_quarrels 8 = .ok (.iaload, 1) := by decide +kernel
theorem dX10_quarrels_9 : decode cX10_quarrels 9 = .ok (.bipush 9, 2) := by decide +kernel
theorem dX10_quarrels_11 : decode cX10_quarrels 11 = .ok (.if_icmp .eq 17, 3) := by decide +kernel
theorem dX10_quarrels_14 : decode cX10_quarrels 14 = .ok (.aload_n 0, 1) := by decide +kernel
theorem dX10_quarrels_15 : decode cX10_quarrels 15 = .ok (.getfield 7, 3) := by decide +kernel
theorem dX10_quarrels_18 : decode cX10_quarrels 18 = .ok (.bipush 36, 2) := by decide +kernel
theorem dX10_quarrels_20 : decode cX10_quarrels 20 = .ok (.iload_n 1, 1) := by decide +kernel
theorem dX10_quarrels_21 : decode cX10_quarrels 21 = .ok (.iadd, 1) := by decide +kernel
theorem dX10_quarrels_22 : decode cX10_quarrels 22 = .ok (.iaload, 1) := by decide +kernel
theorem dX10_quarrels_23 : decode cX10_quarrels 23 = .ok (.bipush (-9), 2) := by decide +kernel
theorem dX10_quarrels_25 : decode cX10_quarrels 25 = .ok (.if_icmp .ne 7, 3) := by decide +kernel
theorem dX10_quarrels_28 : decode cX10_quarrels 28 = .ok (.iconst 1, 1) := by decide +kernel
theorem dX10_quarrels_29 : decode cX10_quarrels 29 = .ok (.goto 4, 3) := by decide +kernel
theorem dX10_quarrels_32 : decode cX10_quarrels 32 = .ok (.iconst 0, 1) := by decide +kernel
theorem dX10_quarrels_33 : decode cX10_quarrels 33 = .ok (.ireturn, 1) := by decide +kernel
theorem dX10_quarrel_0 : decode cX10_quarrel 0 = .ok (.aload_n 0, 1) := by decide +kernel
theorem dX10_quarrel_1 : decode cX10_quarrel 1 = .ok (.iload_n 1, 1) := by decide +kernel
theorem dX10_quarrel_2 : decode cX10_quarrel 2 = .ok (.iload_n 2, 1) := by decide +kernel
theorem dX10_quarrel_3 : decode cX10_quarrel 3 = .ok (.invokevirtual 239, 3) := by decide +kernel
theorem dX10_quarrel_6 : decode cX10_quarrel 6 = .ok (.ifCond .ge 10, 3) := by decide +kernel
theorem dX10_quarrel_9 : decode cX10_quarrel 9 = .ok (.aload_n 0, 1) := by decide +kernel
theorem dX10_quarrel_10 : decode cX10_quarrel 10 = .ok (.iload_n 1, 1) := by decide +kernel
theorem dX10_quarrel_11 : decode cX10_quarrel 11 = .ok (.iload_n 2, 1) := by decide +kernel
theorem dX10_quarrel_12 : decode cX10_quarrel 12 = .ok (.invokevirtual 239, 3) := by decide +kernel
theorem dX10_quarrel_15 : decode cX10_quarrel 15 = .ok (.ireturn, 1) := by decide +kernel
theorem dX10_quarrel_16 : decode cX10_quarrel 16 = .ok (.aload_n 0, 1) := by decide +kernel
theorem dX10_quarrel_17 : decode cX10_quarrel 17 = .ok (.iload_n 1, 1) := by decide +kernel
theorem dX10_quarrel_18 : decode cX10_quarrel 18 = .ok (.iload_n 2, 1) := by decide +kernel
theorem dX10_quarrel_19 : decode cX10_quarrel 19 = .ok (.invokevirtual 236, 3) := by decide +kernel
theorem dX10_quarrel_22 : decode cX10_quarrel 22 = .ok (.iconst 1, 1) := by decide +kernel
theorem dX10_quarrel_23 : decode cX10_quarrel 23 = .ok (.istore_n 3, 1) := by decide +kernel
theorem dX10_quarrel_24 : decode cX10_quarrel 24 = .ok (.iload_n 3, 1) := by decide +kernel
theorem dX10_quarrel_25 : decode cX10_quarrel 25 = .ok (.bipush 100, 2) := by decide +kernel
theorem dX10_quarrel_27 : decode cX10_quarrel 27 = .ok (.if_icmp .ge 44, 3) := by decide +kernel
theorem dX10_quarrel_30 : decode cX10_quarrel 30 = .ok (.aload_n 0, 1) := by decide +kernel
theorem dX10_quarrel_31 : decode cX10_quarrel 31 = .ok (.bipush 28, 2) := by decide +kernel
theorem dX10_quarrel_33 : decode cX10_quarrel 33 = .ok (.invokevirtual 166, 3) := by decide +kernel
theorem dX10_quarrel_36 : decode cX10_quarrel 36 = .ok (.ifCond .ne 35, 3) := by decide +kernel
theorem dX10_quarrel_39 : decode cX10_quarrel 39 = .ok (.aload_n 0, 1) := by decide +kernel
theorem dX10_quarrel_40 : decode cX10_quarrel 40 = .ok (.bipush 28, 2) := by decide +kernel
theorem dX10_quarrel_42 : decode cX10_quarrel 42 = .ok (.invokevirtual 204, 3) := by decide +kernel
theorem dX10_quarrel_45 : decode cX10_quarrel 45 = .ok (.istore 4, 2) := by decide +kernel
theorem dX10_quarrel_47 : decode cX10_quarrel 47 = .ok (.aload_n 0, 1) := by decide +kernel
theorem dX10_quarrel_48 : decode cX10_quarrel 48 = .ok (.iload_n 1, 1) := by decide +kernel
theorem dX10_quarrel_49 : decode cX10_quarrel 49 = .ok (.invokevirtual 247, 3) := by decide +kernel
theorem dX10_quarrel_52 : decode cX10_quarrel 52 = .ok (.ifCond .ne 11, 3) := by decide +kernel
theorem dX10_quarrel_55 : decode cX10_quarrel 55 = .ok (.aload_n 0, 1) := by decide +kernel
theorem dX10_quarrel_56 : decode cX10_quarrel 56 = .ok (.iload_n 2, 1) := by decide +kernel
theorem dX10_quarrel_57 : decode cX10_quarrel 57 = .ok (.invokevirtual 247, 3) := by decide +kernel
theorem dX10_quarrel_60 : decode cX10_quarrel 60 = .ok (.ifCond .eq 5, 3) := by decide +kernel
theorem dX10_quarrel_63 : decode cX10_quarrel 63 = .ok (.iload_n 3, 1) := by decide +kernel
theorem dX10_quarrel_64 : decode cX10_quarrel 64 = .ok (.ireturn, 1) := by decide +kernel
theorem dX10_quarrel_65 : decode cX10_quarrel 65 = .ok (.iinc 3 1, 3) := by decide +kernel
theorem dX10_quarrel_68 : decode cX10_quarrel 68 = .ok (.goto (-44), 3) := by decide +kernel
theorem dX10_quarrel_71 : decode cX10_quarrel 71 = .ok (.iconst (-1), 1) := by decide +kernel
theorem dX10_quarrel_72 : decode cX10_quarrel 72 = .ok (.ireturn, 1) := by decide +kernel
theorem dX10_withWhom_0 : decode cX10_withWhom 0 = .ok (.iload_n 1, 1) := by decide +kernel
theorem dX10_withWhom_1 : decode cX10_withWhom 1 = .ok (.i2l, 1) := by decide +kernel
theorem dX10_withWhom_2 : decode cX10_withWhom 2 = .ok (.lconst 0, 1) := by decide +kernel
theorem dX10_withWhom_3 : decode cX10_withWhom 3 = .ok (.lconst 1, 1) := by decide +kernel
theorem dX10_withWhom_4 : decode cX10_withWhom 4 = .ok (.invokestatic 68, 3) := by decide +kernel
theorem dX10_withWhom_7 : decode cX10_withWhom 7 = .ok (.ifCond .ne 6, 3) := by decide +kernel
theorem dX10_withWhom_10 : decode cX10_withWhom 10 = .ok (.ldc 72, 2) := by decide +kernel
theorem dX10_withWhom_12 : decode cX10_withWhom 12 = .ok (.ireturn, 1) := by decide +kernel
theorem dX10_withWhom_13 : decode cX10_withWhom 13 = .ok (.aload_n 0, 1) := by decide +kernel
theorem dX10_withWhom_14 : decode cX10_withWhom 14 = .ok (.getfield 144, 3) := by decide +kernel
theorem dX10_withWhom_17 : decode cX10_withWhom 17 = .ok (.ifCond .ne 6, 3) := by decide +kernel
theorem dX10_withWhom_20 : decode cX10_withWhom 20 = .ok (.ldc 194, 2) := by decide +kernel
theorem dX10_withWhom_22 : decode cX10_withWhom 22 = .ok (.ireturn, 1) := by decide +kernel
theorem dX10_withWhom_23 : decode cX10_withWhom 23 = .ok (.iconst (-1), 1) := by decide +kernel
theorem dX10_withWhom_24 : decode cX10_withWhom 24 = .ok (.istore_n 2, 1) := by decide +kernel
theorem dX10_withWhom_25 : decode cX10_withWhom 25 = .ok (.ldc 229, 2) := by decide +kernel
theorem dX10_withWhom_27 : decode cX10_withWhom 27 = .ok (.istore_n 3, 1) := by decide +kernel
theorem dX10_withWhom_28 : decode cX10_withWhom 28 = .ok (.ldc 229, 2) := by decide +kernel
theorem dX10_withWhom_30 : decode cX10_withWhom 30 = .ok (.istore 4, 2) := by decide +kernel
theorem dX10_withWhom_32 : decode cX10_withWhom 32 = .ok (.iconst 1, 1) := by decide +kernel
theorem dX10_withWhom_33 : decode cX10_withWhom 33 = .ok (.istore 5, 2) := by decide +kernel
theorem dX10_withWhom_35 : decode cX10_withWhom 35 = .ok (.iload 5, 2) := by decide +kernel
theorem dX10_withWhom_37 : decode cX10_withWhom 37 = .ok (.iconst 4, 1) := by decide +kernel
theorem dX10_withWhom_38 : decode cX10_withWhom 38 = .ok (.if_icmp .ge 122, 3) := by decide +kernel
theorem dX10_withWhom_41 : decode cX10_withWhom 41 = .ok (.aload_n 0, 1) := by decide +kernel
theorem dX10_withWhom_42 : decode cX10_withWhom 42 = .ok (.getfield 147, 3) := by decide +kernel
theorem dX10_withWhom_45 : decode cX10_withWhom 45 = .ok (.iconst 4, 1) := by decide +kernel
theorem dX10_withWhom_46 : decode cX10_withWhom 46 = .ok (.if_icmp .ne 114, 3) := by decide +kernel
theorem dX10_withWhom_49 : decode cX10_withWhom 49 = .ok (.aload_n 0, 1) := by decide +kernel
theorem dX10_withWhom_50 : decode cX10_withWhom 50 = .ok (.iconst 0, 1) := by decide +kernel
theorem dX10_withWhom_51 : decode cX10_withWhom 51 = .ok (.iload 5, 2) := by decide +kernel
theorem dX10_withWhom_53 : decode cX10_withWhom 53 = .ok (.invokevirtual 242, 3) := by decide +kernel
theorem dX10_withWhom_56 : decode cX10_withWhom 56 = .ok (.istore 6, 2) := by decide +kernel
theorem dX10_withWhom_58 : decode cX10_withWhom 58 = .ok (.iload 5, 2) := by decide +kernel
theorem dX10_withWhom_60 : decode cX10_withWhom 60 = .ok (.iconst 1, 1) := by decide +kernel
theorem dX10_withWhom_61 : decode cX10_withWhom 61 = .ok (.if_icmp .ne 12, 3) := by decide +kernel
theorem dX10_withWhom_64 : decode cX10_withWhom 64 = .ok (.aload_n 0, 1) := by decide +kernel
theorem dX10_withWhom_65 : decode cX10_withWhom 65 = .ok (.iconst 2, 1) := by decide +kernel
theorem dX10_withWhom_66 : decode cX10_withWhom 66 = .ok (.iconst 3, 1) := by decide +kernel
theorem dX10_withWhom_67 : decode cX10_withWhom 67 = .ok (.invokevirtual 242, 3) := by decide +kernel
theorem dX10_withWhom_70 : decode cX10_withWhom 70 = .ok (.goto 24, 3) := by decide +kernel
theorem dX10_withWhom_73 : decode cX10_withWhom 73 = .ok (.iload 5, 2) := by decide +kernel
theorem dX10_withWhom_75 : decode cX10_withWhom 75 = .ok (.iconst 2, 1) := by decide +kernel
theorem dX10_withWhom_76 : decode cX10_withWhom 76 = .ok (.if_icmp .ne 12, 3) := by decide +kernel
theorem dX10_withWhom_79 : decode cX10_withWhom 79 = .ok (.aload_n 0, 1) := by decide +kernel
theorem dX10_withWhom_80 : decode cX10_withWhom 80 = .ok (.iconst 1, 1) := by decide +kernel
theorem dX10_withWhom_81 : decode cX10_withWhom 81 = .ok (.iconst 3, 1) := by decide +kernel
theorem dX10_withWhom_82 : decode cX10_withWhom 82 = .ok (.invokevirtual 242, 3) := by decide +kernel
theorem dX10_withWhom_85 : decode cX10_withWhom 85 = .ok (.goto 9, 3) := by decide +kernel
theorem dX10_withWhom_88 : decode cX10_withWhom 88 = .ok (.aload_n 0, 1) := by decide +kernel
theorem dX10_withWhom_89 : decode cX10_withWhom 89 = .ok (.iconst 1, 1) := by decide +kernel
theorem dX10_withWhom_90 : decode cX10_withWhom 90 = .ok (.iconst 2, 1) := by decide +kernel
theorem dX10_withWhom_91 : decode cX10_withWhom 91 = .ok (.invokevirtual 242, 3) := by decide +kernel
theorem dX10_withWhom_94 : decode cX10_withWhom 94 = .ok (.istore 7, 2) := by decide +kernel
theorem dX10_withWhom_96 : decode cX10_withWhom 96 = .ok (.iload 6, 2) := by decide +kernel
theorem dX10_withWhom_98 : decode cX10_withWhom 98 = .ok (.iload 7, 2) := by decide +kernel
theorem dX10_withWhom_100 : decode cX10_withWhom 100 = .ok (.if_icmp .le 8, 3) := by decide +kernel
theorem dX10_withWhom_103 : decode cX10_withWhom 103 = .ok (.iload 6, 2) := by decide +kernel
theorem dX10_withWhom_105 : decode cX10_withWhom 105 = .ok (.goto 5, 3) := by decide +kernel
theorem dX10_withWhom_108 : decode cX10_withWhom 108 = .ok (.iload 7, 2) := by decide +kernel
theorem dX10_withWhom_110 : decode cX10_withWhom 110 = .ok (.istore 8, 2) := by decide +kernel
theorem dX10_withWhom_112 : decode cX10_withWhom 112 = .ok (.iload 8, 2) := by decide +kernel
theorem dX10_withWhom_114 : decode cX10_withWhom 114 = .ok (.iload_n 3, 1) := by decide +kernel
theorem dX10_withWhom_115 : decode cX10_withWhom 115 = .ok (.if_icmp .lt 26, 3) := by decide +kernel
theorem dX10_withWhom_118 : decode cX10_withWhom 118 = .ok (.iload 8, 2) := by decide +kernel
theorem dX10_withWhom_120 : decode cX10_withWhom 120 = .ok (.iload_n 3, 1) := by decide +kernel
theorem dX10_withWhom_121 : decode cX10_withWhom 121 = .ok (.if_icmp .ne 33, 3) := by decide +kernel
theorem dX10_withWhom_124 : decode cX10_withWhom 124 = .ok (.iload 8, 2) := by decide +kernel
theorem dX10_withWhom_126 : decode cX10_withWhom 126 = .ok (.ldc 229, 2) := by decide +kernel
theorem dX10_withWhom_128 : decode cX10_withWhom 128 = .ok (.if_icmp .ge 26, 3) := by decide +kernel
theorem dX10_withWhom_131 : decode cX10_withWhom 131 = .ok (.iload 6, 2) := by decide +kernel
theorem dX10_withWhom_133 : decode cX10_withWhom 133 = .ok (.iload 7, 2) := by decide +kernel
theorem dX10_withWhom_135 : decode cX10_withWhom 135 = .ok (.iadd, 1) := by decide +kernel
theorem dX10_withWhom_136 : decode cX10_withWhom 136 = .ok (.iload 4, 2) := by decide +kernel
theorem dX10_withWhom_138 : decode cX10_withWhom 138 = .ok (.if_icmp .ge 16, 3) := by decide +kernel
theorem dX10_withWhom_141 : decode cX10_withWhom 141 = .ok (.iload 5, 2) := by decide +kernel
theorem dX10_withWhom_143 : decode cX10_withWhom 143 = .ok (.istore_n 2, 1) := by decide +kernel
theorem dX10_withWhom_144 : decode cX10_withWhom 144 = .ok (.iload 8, 2) := by decide +kernel
theorem dX10_withWhom_146 : decode cX10_withWhom 146 = .ok (.istore_n 3, 1) := by decide +kernel
theorem dX10_withWhom_147 : decode cX10_withWhom 147 = .ok (.iload 6, 2) := by decide +kernel
theorem dX10_withWhom_149 : decode cX10_withWhom 149 = .ok (.iload 7, 2) := by decide +kernel
theorem dX10_withWhom_151 : decode cX10_withWhom 151 = .ok (.iadd, 1) := by decide +kernel
theorem dX10_withWhom_152 : decode cX10_withWhom 152 = .ok (.istore 4, 2) := by decide +kernel
theorem dX10_withWhom_154 : decode cX10_withWhom 154 = .ok (.iinc 5 1, 3) := by decide +kernel
theorem dX10_withWhom_157 : decode cX10_withWhom 157 = .ok (.goto (-122), 3) := by decide +kernel
theorem dX10_withWhom_160 : decode cX10_withWhom 160 = .ok (.iload_n 2, 1) := by decide +kernel
theorem dX10_withWhom_161 : decode cX10_withWhom 161 = .ok (.ifCond .lt 8, 3) := by decide +kernel
theorem dX10_withWhom_164 : decode cX10_withWhom 164 = .ok (.iload_n 1, 1) := by decide +kernel
theorem dX10_withWhom_165 : decode cX10_withWhom 165 = .ok (.iconst 1, 1) := by decide +kernel
theorem dX10_withWhom_166 : decode cX10_withWhom 166 = .ok (.if_icmp .ne 7, 3) := by decide +kernel
theorem dX10_withWhom_169 : decode cX10_withWhom 169 = .ok (.iload_n 2, 1) := by decide +kernel
theorem dX10_withWhom_170 : decode cX10_withWhom 170 = .ok (.goto 4, 3) := by decide +kernel
theorem dX10_withWhom_173 : decode cX10_withWhom 173 = .ok (.iload_n 3, 1) := by decide +kernel
theorem dX10_withWhom_174 : decode cX10_withWhom 174 = .ok (.ireturn, 1) := by decide +kernel
theorem dX10_lay_0 : decode cX10_lay 0 = .ok (.iload_n 2, 1) := by decide +kernel
theorem dX10_lay_1 : decode cX10_lay 1 = .ok (.aload_n 0, 1) := by decide +kernel
theorem dX10_lay_2 : decode cX10_lay 2 = .ok (.getfield 45, 3) := by decide +kernel
theorem dX10_lay_5 : decode cX10_lay 5 = .ok (.iload_n 1, 1) := by decide +kernel
theorem dX10_lay_6 : decode cX10_lay 6 = .ok (.iaload, 1) := by decide +kernel
theorem dX10_lay_7 : decode cX10_lay 7 = .ok (.if_icmp .lt 23, 3) := by decide +kernel
theorem dX10_lay_10 : decode cX10_lay 10 = .ok (.iload_n 2, 1) := by decide +kernel
theorem dX10_lay_11 : decode cX10_lay 11 = .ok (.aload_n 0, 1) := by decide +kernel
theorem dX10_lay_12 : decode cX10_lay 12 = .ok (.getfield 45, 3) := by decide +kernel
theorem dX10_lay_15 : decode cX10_lay 15 = .ok (.iload_n 1, 1) := by decide +kernel
theorem dX10_lay_16 : decode cX10_lay 16 = .ok (.iaload, 1) := by decide +kernel
theorem dX10_lay_17 : decode cX10_lay 17 = .ok (.if_icmp .ne 17, 3) := by decide +kernel
theorem dX10_lay_20 : decode cX10_lay 20 = .ok (.iload_n 3, 1) := by decide +kernel
theorem dX10_lay_21 : decode cX10_lay 21 = .ok (.aload_n 0, 1) := by decide +kernel
theorem dX10_lay_22 : decode cX10_lay 22 = .ok (.getfield 51, 3) := by decide +kernel
theorem dX10_lay_25 : decode cX10_lay 25 = .ok (.iload_n 1, 1) := by decide +kernel
theorem dX10_lay_26 : decode cX10_lay 26 = .ok (.iaload, 1) := by decide +kernel
theorem dX10_lay_27 : decode cX10_lay 27 = .ok (.if_icmp .le 7, 3) := by decide +kernel
theorem dX10_lay_30 : decode cX10_lay 30 = .ok (.iconst 1, 1) := by decide +kernel
theorem dX10_lay_31 : decode cX10_lay 31 = .ok (.goto 4, 3) := by decide +kernel
theorem dX10_lay_34 : decode cX10_lay 34 = .ok (.iconst 0, 1) := by decide +kernel
theorem dX10_lay_35 : decode cX10_lay 35 = .ok (.istore 4, 2) := by decide +kernel
theorem dX10_lay_37 : decode cX10_lay 37 = .ok (.iload 4, 2) := by decide +kernel
theorem dX10_lay_39 : decode cX10_lay 39 = .ok (.ifCond .eq 17, 3) := by decide +kernel
theorem dX10_lay_42 : decode cX10_lay 42 = .ok (.aload_n 0, 1) := by decide +kernel
theorem dX10_lay_43 : decode cX10_lay 43 = .ok (.getfield 45, 3) := by decide +kernel
theorem dX10_lay_46 : decode cX10_lay 46 = .ok (.iload_n 1, 1) := by decide +kernel
theorem dX10_lay_47 : decode cX10_lay 47 = .ok (.iload_n 2, 1) := by decide +kernel
theorem dX10_lay_48 : decode cX10_lay 48 = .ok (.iastore, 1) := by decide +kernel
theorem dX10_lay_49 : decode cX10_lay 49 = .ok (.aload_n 0, 1) := by decide +kernel
theorem dX10_lay_50 : decode cX10_lay 50 = .ok (.getfield 51, 3) := by decide +kernel
theorem dX10_lay_53 : decode cX10_lay 53 = .ok (.iload_n 1, 1) := by decide +kernel
theorem dX10_lay_54 : decode cX10_lay 54 = .ok (.iload_n 3, 1) := by decide +kernel
theorem dX10_lay_55 : decode cX10_lay 55 = .ok (.iastore, 1) := by decide +kernel
theorem dX10_lay_56 : decode cX10_lay 56 = .ok (.return_, 1) := by decide +kernel
theorem dX10_changes_0 : decode cX10_changes 0 = .ok (.iload_n 1, 1) := by decide +kernel
theorem dX10_changes_1 : decode cX10_changes 1 = .ok (.i2l, 1) := by decide +kernel
theorem dX10_changes_2 : decode cX10_changes 2 = .ok (.lconst 1, 1) := by decide +kernel
theorem dX10_changes_3 : decode cX10_changes 3 = .ok (.ldc2_w 227, 3) := by decide +kernel
theorem dX10_changes_6 : decode cX10_changes 6 = .ok (.invokestatic 68, 3) := by decide +kernel
theorem dX10_changes_9 : decode cX10_changes 9 = .ok (.ifCond .eq 25, 3) := by decide +kernel
theorem dX10_changes_12 : decode cX10_changes 12 = .ok (.iload_n 2, 1) := by decide +kernel
theorem dX10_changes_13 : decode cX10_changes 13 = .ok (.i2l, 1) := by decide +kernel
theorem dX10_changes_14 : decode cX10_changes 14 = .ok (.lconst 0, 1) := by decide +kernel
theorem dX10_changes_15 : decode cX10_changes 15 = .ok (.ldc2_w 250, 3) := by decide +kernel
theorem dX10_changes_18 : decode cX10_changes 18 = .ok (.invokestatic 68, 3) := by decide +kernel
theorem dX10_changes_21 : decode cX10_changes 21 = .ok (.ifCond .eq 13, 3) := by decide +kernel
theorem dX10_changes_24 : decode cX10_changes 24 = .ok (.iload_n 3, 1) := by decide +kernel
theorem dX10_changes_25 : decode cX10_changes 25 = .ok (.i2l, 1) := by decide +kernel
theorem dX10_changes_26 : decode cX10_changes 26 = .ok (.lconst 0, 1) := by decide +kernel
theorem dX10_changes_27 : decode cX10_changes 27 = .ok (.lconst 1, 1) := by decide +kernel
theorem dX10_changes_28 : decode cX10_changes 28 = .ok (.invokestatic 68, 3) := by decide +kernel
theorem dX10_changes_31 : decode cX10_changes 31 = .ok (.ifCond .ne 6, 3) := by decide +kernel
theorem dX10_changes_34 : decode cX10_changes 34 = .ok (.ldc 72, 2) := by decide +kernel
theorem dX10_changes_36 : decode cX10_changes 36 = .ok (.ireturn, 1) := by decide +kernel
theorem dX10_changes_37 : decode cX10_changes 37 = .ok (.aload_n 0, 1) := by decide +kernel
theorem dX10_changes_38 : decode cX10_changes 38 = .ok (.invokevirtual 197, 3) := by decide +kernel
theorem dX10_changes_41 : decode cX10_changes 41 = .ok (.ifCond .ne 6, 3) := by decide +kernel
theorem dX10_changes_44 : decode cX10_changes 44 = .ok (.ldc 194, 2) := by decide +kernel
theorem dX10_changes_46 : decode cX10_changes 46 = .ok (.ireturn, 1) := by decide +kernel
theorem dX10_changes_47 : decode cX10_changes 47 = .ok (.aload_n 0, 1) := by decide +kernel
theorem dX10_changes_48 : decode cX10_changes 48 = .ok (.getfield 23, 3) := by decide +kernel
theorem dX10_changes_51 : decode cX10_changes 51 = .ok (.aload_n 0, 1) := by decide +kernel
theorem dX10_changes_52 : decode cX10_changes 52 = .ok (.getfield 7, 3) := by decide +kernel
theorem dX10_changes_55 : decode cX10_changes 55 = .ok (.bipush 16, 2) := by decide +kernel
theorem dX10_changes_57 : decode cX10_changes 57 = .ok (.iaload, 1) := by decide +kernel
theorem dX10_changes_58 : decode cX10_changes 58 = .ok (.iaload, 1) := by decide +kernel
theorem dX10_changes_59 : decode cX10_changes 59 = .ok (.aload_n 0, 1) := by decide +kernel
theorem dX10_changes_60 : decode cX10_changes 60 = .ok (.getfield 23, 3) := by decide +kernel
theorem dX10_changes_63 : decode cX10_changes 63 = .ok (.aload_n 0, 1) := by decide +kernel
theorem dX10_changes_64 : decode cX10_changes 64 = .ok (.getfield 7, 3) := by decide +kernel
theorem dX10_changes_67 : decode cX10_changes 67 = .ok (.bipush 17, 2) := by decide +kernel
theorem dX10_changes_69 : decode cX10_changes 69 = .ok (.iaload, 1) := by decide +kernel
theorem dX10_changes_70 : decode cX10_changes 70 = .ok (.iaload, 1) := by decide +kernel
theorem dX10_changes_71 : decode cX10_changes 71 = .ok (.isub, 1) := by decide +kernel
theorem dX10_changes_72 : decode cX10_changes 72 = .ok (.istore 4, 2) := by decide +kernel
theorem dX10_changes_74 : decode cX10_changes 74 = .ok (.iconst 0, 1) := by decide +kernel
theorem dX10_changes_75 : decode cX10_changes 75 = .ok (.istore 5, 2) := by decide +kernel
theorem dX10_changes_77 : decode cX10_changes 77 = .ok (.iload 5, 2) := by decide +kernel
theorem dX10_changes_79 : decode cX10_changes 79 = .ok (.sipush 1204, 3) := by decide +kernel
theorem dX10_changes_82 : decode cX10_changes 82 = .ok (.if_icmp .ge 18, 3) := by decide +kernel
theorem dX10_changes_85 : decode cX10_changes 85 = .ok (.aload_n 0, 1) := by decide +kernel
theorem dX10_changes_86 : decode cX10_changes 86 = .ok (.getfield 42, 3) := by decide +kernel
theorem dX10_changes_89 : decode cX10_changes 89 = .ok (.iload 5, 2) := by decide +kernel
theorem dX10_changes_91 : decode cX10_changes 91 = .ok (.ldc 229, 2) := by decide +kernel
theorem dX10_changes_93 : decode cX10_changes 93 = .ok (.iastore, 1) := by decide +kernel
theorem dX10_changes_94 : decode cX10_changes 94 = .ok (.iinc 5 1, 3) := by decide +kernel
theorem dX10_changes_97 : decode cX10_changes 97 = .ok (.goto (-20), 3) := by decide +kernel
theorem dX10_changes_100 : decode cX10_changes 100 = .ok (.aload_n 0, 1) := by decide +kernel
theorem dX10_changes_101 : decode cX10_changes 101 = .ok (.getfield 42, 3) := by decide +kernel
theorem dX10_changes_104 : decode cX10_changes 104 = .ok (.sipush 602, 3) := by decide +kernel
theorem dX10_changes_107 : decode cX10_changes 107 = .ok (.iconst 0, 1) := by decide +kernel
theorem dX10_changes_108 : decode cX10_changes 108 = .ok (.iastore, 1) := by decide +kernel
theorem dX10_changes_109 : decode cX10_changes 109 = .ok (.aload_n 0, 1) := by decide +kernel
theorem dX10_changes_110 : decode cX10_changes 110 = .ok (.getfield 48, 3) := by decide +kernel
theorem dX10_changes_113 : decode cX10_changes 113 = .ok (.sipush 602, 3) := by decide +kernel
theorem dX10_changes_116 : decode cX10_changes 116 = .ok (.bipush 99, 2) := by decide +kernel
theorem dX10_changes_118 : decode cX10_changes 118 = .ok (.iastore, 1) := by decide +kernel
theorem dX10_changes_119 : decode cX10_changes 119 = .ok (.iconst 0, 1) := by decide +kernel
theorem dX10_changes_120 : decode cX10_changes 120 = .ok (.istore 5, 2) := by decide +kernel
theorem dX10_changes_122 : decode cX10_changes 122 = .ok (.iload 5, 2) := by decide +kernel
theorem dX10_changes_124 : decode cX10_changes 124 = .ok (.iload_n 1, 1) := by decide +kernel
theorem dX10_changes_125 : decode cX10_changes 125 = .ok (.if_icmp .ge 240, 3) := by decide +kernel
theorem dX10_changes_128 : decode cX10_changes 128 = .ok (.iconst 0, 1) := by decide +kernel
theorem dX10_changes_129 : decode cX10_changes 129 = .ok (.istore 6, 2) := by decide +kernel
theorem dX10_changes_131 : decode cX10_changes 131 = .ok (.iload 6, 2) := by decide +kernel
theorem dX10_changes_133 : decode cX10_changes 133 = .ok (.sipush 1204, 3) := by decide +kernel
theorem dX10_changes_136 : decode cX10_changes 136 = .ok (.if_icmp .ge 26, 3) := by decide +kernel
theorem dX10_changes_139 : decode cX10_changes 139 = .ok (.aload_n 0, 1) := by decide +kernel
theorem dX10_changes_140 : decode cX10_changes 140 = .ok (.getfield 45, 3) := by decide +kernel
theorem dX10_changes_143 : decode cX10_changes 143 = .ok (.iload 6, 2) := by decide +kernel
theorem dX10_changes_145 : decode cX10_changes 145 = .ok (.ldc 229, 2) := by decide +kernel
theorem dX10_changes_147 : decode cX10_changes 147 = .ok (.iastore, 1) := by decide +kernel
theorem dX10_changes_148 : decode cX10_changes 148 = .ok (.aload_n 0, 1) := by decide +kernel
theorem dX10_changes_149 : decode cX10_changes 149 = .ok (.getfield 51, 3) := by decide +kernel
theorem dX10_changes_152 : decode cX10_changes 152 = .ok (.iload 6, 2) := by decide +kernel
theorem dX10_changes_154 : decode cX10_changes 154 = .ok (.iconst (-1), 1) := by decide +kernel
theorem dX10_changes_155 : decode cX10_changes 155 = .ok (.iastore, 1) := by decide +kernel
theorem dX10_changes_156 : decode cX10_changes 156 = .ok (.iinc 6 1, 3) := by decide +kernel
theorem dX10_changes_159 : decode cX10_changes 159 = .ok (.goto (-28), 3) := by decide +kernel
theorem dX10_changes_162 : decode cX10_changes 162 = .ok (.iconst 0, 1) := by decide +kernel
theorem dX10_changes_163 : decode cX10_changes 163 = .ok (.istore 6, 2) := by decide +kernel
theorem dX10_changes_165 : decode cX10_changes 165 = .ok (.iload 6, 2) := by decide +kernel
theorem dX10_changes_167 : decode cX10_changes 167 = .ok (.sipush 1204, 3) := by decide +kernel
theorem dX10_changes_170 : decode cX10_changes 170 = .ok (.if_icmp .ge 144, 3) := by decide +kernel
theorem dX10_changes_173 : decode cX10_changes 173 = .ok (.iconst 0, 1) := by decide +kernel
theorem dX10_changes_174 : decode cX10_changes 174 = .ok (.istore 7, 2) := by decide +kernel
theorem dX10_changes_176 : decode cX10_changes 176 = .ok (.iload 7, 2) := by decide +kernel
theorem dX10_changes_178 : decode cX10_changes 178 = .ok (.iconst 2, 1) := by decide +kernel
theorem dX10_changes_179 : decode cX10_changes 179 = .ok (.if_icmp .ge 129, 3) := by decide +kernel
theorem dX10_changes_182 : decode cX10_changes 182 = .ok (.aload_n 0, 1) := by decide +kernel
theorem dX10_changes_183 : decode cX10_changes 183 = .ok (.getfield 42, 3) := by decide +kernel
theorem dX10_changes_186 : decode cX10_changes 186 = .ok (.iload 6, 2) := by decide +kernel
theorem dX10_changes_188 : decode cX10_changes 188 = .ok (.iaload, 1) := by decide +kernel
theorem dX10_changes_189 : decode cX10_changes 189 = .ok (.ldc 229, 2) := by decide +kernel
theorem dX10_changes_191 : decode cX10_changes 191 = .ok (.if_icmp .ge 117, 3) := by decide +kernel
theorem dX10_changes_194 : decode cX10_changes 194 = .ok (.iload 6, 2) := by decide +kernel
theorem dX10_changes_196 : decode cX10_changes 196 = .ok (.iload 7, 2) := by decide +kernel
theorem dX10_changes_198 : decode cX10_changes 198 = .ok (.iadd, 1) := by decide +kernel
theorem dX10_changes_199 : decode cX10_changes 199 = .ok (.iconst 2, 1) := by decide +kernel
theorem dX10_changes_200 : decode cX10_changes 200 = .ok (.irem, 1) := by decide +kernel
theorem dX10_changes_201 : decode cX10_changes 201 = .ok (.istore 8, 2) := by decide +kernel
theorem dX10_changes_203 : decode cX10_changes 203 = .ok (.iload 6, 2) := by decide +kernel
theorem dX10_changes_205 : decode cX10_changes 205 = .ok (.iconst 2, 1) := by decide +kernel
theorem dX10_changes_206 : decode cX10_changes 206 = .ok (.idiv, 1) := by decide +kernel
theorem dX10_changes_207 : decode cX10_changes 207 = .ok (.sipush 301, 3) := by decide +kernel
theorem dX10_changes_210 : decode cX10_changes 210 = .ok (.isub, 1) := by decide +kernel
theorem dX10_changes_211 : decode cX10_changes 211 = .ok (.iload 8, 2) := by decide +kernel
theorem dX10_changes_213 : decode cX10_changes 213 = .ok (.ifCond .ne 8, 3) := by decide +kernel
theorem dX10_changes_216 : decode cX10_changes 216 = .ok (.iload 4, 2) := by decide +kernel
theorem dX10_changes_218 : decode cX10_changes 218 = .ok (.goto 6, 3) := by decide +kernel
theorem dX10_changes_221 : decode cX10_changes 221 = .ok (.iload 4, 2) := by decide +kernel
theorem dX10_changes_223 : decode cX10_changes 223 = .ok (.ineg, 1) := by decide +kernel
theorem dX10_changes_224 : decode cX10_changes 224 = .ok (.iadd, 1) := by decide +kernel
theorem dX10_changes_225 : decode cX10_changes 225 = .ok (.istore 9, 2) := by decide +kernel
theorem dX10_changes_227 : decode cX10_changes 227 = .ok (.aload_n 0, 1) := by decide +kernel
theorem dX10_changes_228 : decode cX10_changes 228 = .ok (.getfield 7, 3) := by decide +kernel
theorem dX10_changes_231 : decode cX10_changes 231 = .ok (.bipush 21, 2) := by decide +kernel
theorem dX10_changes_233 : decode cX10_changes 233 = .ok (.iaload, 1) := by decide +kernel
theorem dX10_changes_234 : decode cX10_changes 234 = .ok (.iload 9, 2) := by decide +kernel
theorem dX10_changes_236 : decode cX10_changes 236 = .ok (.iadd, 1) := by decide +kernel
theorem dX10_changes_237 : decode cX10_changes 237 = .ok (.i2l, 1) := by decide +kernel
theorem dX10_changes_238 : decode cX10_changes 238 = .ok (.iload_n 2, 1) := by decide +kernel
theorem dX10_changes_239 : decode cX10_changes 239 = .ok (.ineg, 1) := by decide +kernel
theorem dX10_changes_240 : decode cX10_changes 240 = .ok (.i2l, 1) := by decide +kernel
theorem dX10_changes_241 : decode cX10_changes 241 = .ok (.iload_n 2, 1) := by decide +kernel
theorem dX10_changes_242 : decode cX10_changes 242 = .ok (.i2l, 1) := by decide +kernel
theorem dX10_changes_243 : decode cX10_changes 243 = .ok (.invokestatic 68, 3) := by decide +kernel
theorem dX10_changes_246 : decode cX10_changes 246 = .ok (.ifCond .eq 56, 3) := by decide +kernel
theorem dX10_changes_249 : decode cX10_changes 249 = .ok (.aload_n 0, 1) := by decide +kernel
theorem dX10_changes_250 : decode cX10_changes 250 = .ok (.iconst 2, 1) := by decide +kernel
theorem dX10_changes_251 : decode cX10_changes 251 = .ok (.iload 9, 2) := by decide +kernel
theorem dX10_changes_253 : decode cX10_changes 253 = .ok (.sipush 301, 3) := by decide +kernel
theorem dX10_changes_256 : decode cX10_changes 256 = .ok (.iadd, 1) := by decide +kernel
theorem dX10_changes_257 : decode cX10_changes 257 = .ok (.imul, 1) := by decide +kernel
theorem dX10_changes_258 : decode cX10_changes 258 = .ok (.iload 8, 2) := by decide +kernel
theorem dX10_changes_260 : decode cX10_changes 260 = .ok (.iadd, 1) := by decide +kernel
theorem dX10_changes_261 : decode cX10_changes 261 = .ok (.aload_n 0, 1) := by decide +kernel
theorem dX10_changes_262 : decode cX10_changes 262 = .ok (.getfield 42, 3) := by decide +kernel
theorem dX10_changes_265 : decode cX10_changes 265 = .ok (.iload 6, 2) := by decide +kernel
theorem dX10_changes_267 : decode cX10_changes 267 = .ok (.iaload, 1) := by decide +kernel
theorem dX10_changes_268 : decode cX10_changes 268 = .ok (.iload 7, 2) := by decide +kernel
theorem dX10_changes_270 : decode cX10_changes 270 = .ok (.iadd, 1) := by decide +kernel
theorem dX10_changes_271 : decode cX10_changes 271 = .ok (.iload 7, 2) := by decide +kernel
theorem dX10_changes_273 : decode cX10_changes 273 = .ok (.iconst 1, 1) := by decide +kernel
theorem dX10_changes_274 : decode cX10_changes 274 = .ok (.if_icmp .ne 18, 3) := by decide +kernel
theorem dX10_changes_277 : decode cX10_changes 277 = .ok (.aload_n 0, 1) := by decide +kernel
theorem dX10_changes_278 : decode cX10_changes 278 = .ok (.getfield 42, 3) := by decide +kernel
theorem dX10_changes_281 : decode cX10_changes 281 = .ok (.iload 6, 2) := by decide +kernel
theorem dX10_changes_283 : decode cX10_changes 283 = .ok (.iaload, 1) := by decide +kernel
theorem dX10_changes_284 : decode cX10_changes 284 = .ok (.ifCond .ne 8, 3) := by decide +kernel
theorem dX10_changes_287 : decode cX10_changes 287 = .ok (.iload 5, 2) := by decide +kernel
theorem dX10_changes_289 : decode cX10_changes 289 = .ok (.goto 10, 3) := by decide +kernel
theorem dX10_changes_292 : decode cX10_changes 292 = .ok (.aload_n 0, 1) := by decide +kernel
theorem dX10_changes_293 : decode cX10_changes 293 = .ok (.getfield 48, 3) := by decide +kernel
theorem dX10_changes_296 : decode cX10_changes 296 = .ok (.iload 6, 2) := by decide +kernel
theorem dX10_changes_298 : decode cX10_changes 298 = .ok (.iaload, 1) := by decide +kernel
theorem dX10_changes_299 : decode cX10_changes 299 = .ok (.invokevirtual 252, 3) := by decide +kernel
theorem dX10_changes_302 : decode cX10_changes 302 = .ok (.iinc 7 1, 3) := by decide +kernel
theorem dX10_changes_305 : decode cX10_changes 305 = .ok (.goto (-129), 3) := by decide +kernel
theorem dX10_changes_308 : decode cX10_changes 308 = .ok (.iinc 6 1, 3) := by decide +kernel
theorem dX10_changes_311 : decode cX10_changes 311 = .ok (.goto (-146), 3) := by decide +kernel
theorem dX10_changes_314 : decode cX10_changes 314 = .ok (.iconst 0, 1) := by decide +kernel
theorem dX10_changes_315 : decode cX10_changes 315 = .ok (.istore 6, 2) := by decide +kernel
theorem dX10_changes_317 : decode cX10_changes 317 = .ok (.iload 6, 2) := by decide +kernel
theorem dX10_changes_319 : decode cX10_changes 319 = .ok (.sipush 1204, 3) := by decide +kernel
theorem dX10_changes_322 : decode cX10_changes 322 = .ok (.if_icmp .ge 37, 3) := by decide +kernel
theorem dX10_changes_325 : decode cX10_changes 325 = .ok (.aload_n 0, 1) := by decide +kernel
theorem dX10_changes_326 : decode cX10_changes 326 = .ok (.getfield 42, 3) := by decide +kernel
theorem dX10_changes_329 : decode cX10_changes 329 = .ok (.iload 6, 2) := by decide +kernel
theorem dX10_changes_331 : decode cX10_changes 331 = .ok (.aload_n 0, 1) := by decide +kernel
theorem dX10_changes_332 : decode cX10_changes 332 = .ok (.getfield 45, 3) := by decide +kernel
theorem dX10_changes_335 : decode cX10_changes 335 = .ok (.iload 6, 2) := by decide +kernel
theorem dX10_changes_337 : decode cX10_changes 337 = .ok (.iaload, 1) := by decide +kernel
theorem dX10_changes_338 : decode cX10_changes 338 = .ok (.iastore, 1) := by decide +kernel
theorem dX10_changes_339 : decode cX10_changes 339 = .ok (.aload_n 0, 1) := by decide +kernel
theorem dX10_changes_340 : decode cX10_changes 340 = .ok (.getfield 48, 3) := by decide +kernel
theorem dX10_changes_343 : decode cX10_changes 343 = .ok (.iload 6, 2) := by decide +kernel
theorem dX10_changes_345 : decode cX10_changes 345 = .ok (.aload_n 0, 1) := by decide +kernel
theorem dX10_changes_346 : decode cX10_changes 346 = .ok (.getfield 51, 3) := by decide +kernel
theorem dX10_changes_349 : decode cX10_changes 349 = .ok (.iload 6, 2) := by decide +kernel
theorem dX10_changes_351 : decode cX10_changes 351 = .ok (.iaload, 1) := by decide +kernel
theorem dX10_changes_352 : decode cX10_changes 352 = .ok (.iastore, 1) := by decide +kernel
theorem dX10_changes_353 : decode cX10_changes 353 = .ok (.iinc 6 1, 3) := by decide +kernel
theorem dX10_changes_356 : decode cX10_changes 356 = .ok (.goto (-39), 3) := by decide +kernel
theorem dX10_changes_359 : decode cX10_changes 359 = .ok (.iinc 5 1, 3) := by decide +kernel
theorem dX10_changes_362 : decode cX10_changes 362 = .ok (.goto (-240), 3) := by decide +kernel
theorem dX10_changes_365 : decode cX10_changes 365 = .ok (.ldc 229, 2) := by decide +kernel
theorem dX10_changes_367 : decode cX10_changes 367 = .ok (.istore 5, 2) := by decide +kernel
theorem dX10_changes_369 : decode cX10_changes 369 = .ok (.iconst (-1), 1) := by decide +kernel
theorem dX10_changes_370 : decode cX10_changes 370 = .ok (.istore 6, 2) := by decide +kernel
theorem dX10_changes_372 : decode cX10_changes 372 = .ok (.iconst 0, 1) := by decide +kernel
theorem dX10_changes_373 : decode cX10_changes 373 = .ok (.istore 7, 2) := by decide +kernel
theorem dX10_changes_375 : decode cX10_changes 375 = .ok (.iload 7, 2) := by decide +kernel
theorem dX10_changes_377 : decode cX10_changes 377 = .ok (.sipush 1204, 3) := by decide +kernel
theorem dX10_changes_380 : decode cX10_changes 380 = .ok (.if_icmp .ge 63, 3) := by decide +kernel
theorem dX10_changes_383 : decode cX10_changes 383 = .ok (.aload_n 0, 1) := by decide +kernel
theorem dX10_changes_384 : decode cX10_changes 384 = .ok (.getfield 42, 3) := by decide +kernel
theorem dX10_changes_387 : decode cX10_changes 387 = .ok (.iload 7, 2) := by decide +kernel
theorem dX10_changes_389 : decode cX10_changes 389 = .ok (.iaload, 1) := by decide +kernel
theorem dX10_changes_390 : decode cX10_changes 390 = .ok (.iload 5, 2) := by decide +kernel
theorem dX10_changes_392 : decode cX10_changes 392 = .ok (.if_icmp .lt 27, 3) := by decide +kernel
theorem dX10_changes_395 : decode cX10_changes 395 = .ok (.aload_n 0, 1) := by decide +kernel
theorem dX10_changes_396 : decode cX10_changes 396 = .ok (.getfield 42, 3) := by decide +kernel
theorem dX10_changes_399 : decode cX10_changes 399 = .ok (.iload 7, 2) := by decide +kernel
theorem dX10_changes_401 : decode cX10_changes 401 = .ok (.iaload, 1) := by decide +kernel
theorem dX10_changes_402 : decode cX10_changes 402 = .ok (.iload 5, 2) := by decide +kernel
theorem dX10_changes_404 : decode cX10_changes 404 = .ok (.if_icmp .ne 33, 3) := by decide +kernel
theorem dX10_changes_407 : decode cX10_changes 407 = .ok (.aload_n 0, 1) := by decide +kernel
theorem dX10_changes_408 : decode cX10_changes 408 = .ok (.getfield 48, 3) := by decide +kernel
theorem dX10_changes_411 : decode cX10_changes 411 = .ok (.iload 7, 2) := by decide +kernel
theorem dX10_changes_413 : decode cX10_changes 413 = .ok (.iaload, 1) := by decide +kernel
theorem dX10_changes_414 : decode cX10_changes 414 = .ok (.iload 6, 2) := by decide +kernel
theorem dX10_changes_416 : decode cX10_changes 416 = .ok (.if_icmp .le 21, 3) := by decide +kernel
theorem dX10_changes_419 : decode cX10_changes 419 = .ok (.aload_n 0, 1) := by decide +kernel
theorem dX10_changes_420 : decode cX10_changes 420 = .ok (.getfield 42, 3) := by decide +kernel
theorem dX10_changes_423 : decode cX10_changes 423 = .ok (.iload 7, 2) := by decide +kernel
theorem dX10_changes_425 : decode cX10_changes 425 = .ok (.iaload, 1) := by decide +kernel
theorem dX10_changes_426 : decode cX10_changes 426 = .ok (.istore 5, 2) := by decide +kernel
theorem dX10_changes_428 : decode cX10_changes 428 = .ok (.aload_n 0, 1) := by decide +kernel
theorem dX10_changes_429 : decode cX10_changes 429 = .ok (.getfield 48, 3) := by decide +kernel
theorem dX10_changes_432 : decode cX10_changes 432 = .ok (.iload 7, 2) := by decide +kernel
theorem dX10_changes_434 : decode cX10_changes 434 = .ok (.iaload, 1) := by decide +kernel
theorem dX10_changes_435 : decode cX10_changes 435 = .ok (.istore 6, 2) := by decide +kernel
theorem dX10_changes_437 : decode cX10_changes 437 = .ok (.iinc 7 1, 3) := by decide +kernel
theorem dX10_changes_440 : decode cX10_changes 440 = .ok (.goto (-65), 3) := by decide +kernel
theorem dX10_changes_443 : decode cX10_changes 443 = .ok (.iload 5, 2) := by decide +kernel
theorem dX10_changes_445 : decode cX10_changes 445 = .ok (.ldc 229, 2) := by decide +kernel
theorem dX10_changes_447 : decode cX10_changes 447 = .ok (.if_icmp .ne 7, 3) := by decide +kernel
theorem dX10_changes_450 : decode cX10_changes 450 = .ok (.iconst (-1), 1) := by decide +kernel
theorem dX10_changes_451 : decode cX10_changes 451 = .ok (.goto 23, 3) := by decide +kernel
theorem dX10_changes_454 : decode cX10_changes 454 = .ok (.iload_n 3, 1) := by decide +kernel
theorem dX10_changes_455 : decode cX10_changes 455 = .ok (.ifCond .ne 8, 3) := by decide +kernel
theorem dX10_changes_458 : decode cX10_changes 458 = .ok (.iload 5, 2) := by decide +kernel
theorem dX10_changes_460 : decode cX10_changes 460 = .ok (.goto 14, 3) := by decide +kernel
theorem dX10_changes_463 : decode cX10_changes 463 = .ok (.iload 5, 2) := by decide +kernel
theorem dX10_changes_465 : decode cX10_changes 465 = .ok (.ifCond .ne 7, 3) := by decide +kernel
theorem dX10_changes_468 : decode cX10_changes 468 = .ok (.iconst (-1), 1) := by decide +kernel
theorem dX10_changes_469 : decode cX10_changes 469 = .ok (.goto 5, 3) := by decide +kernel
theorem dX10_changes_472 : decode cX10_changes 472 = .ok (.iload 6, 2) := by decide +kernel
theorem dX10_changes_474 : decode cX10_changes 474 = .ok (.ireturn, 1) := by decide +kernel
theorem dX10_whenWedge_0 : decode cX10_whenWedge 0 = .ok (.iload_n 1, 1) := by decide +kernel
theorem dX10_whenWedge_1 : decode cX10_whenWedge 1 = .ok (.i2l, 1) := by decide +kernel
theorem dX10_whenWedge_2 : decode cX10_whenWedge 2 = .ok (.lconst 0, 1) := by decide +kernel
theorem dX10_whenWedge_3 : decode cX10_whenWedge 3 = .ok (.lconst 1, 1) := by decide +kernel
theorem dX10_whenWedge_4 : decode cX10_whenWedge 4 = .ok (.invokestatic 68, 3) := by decide +kernel
theorem dX10_whenWedge_7 : decode cX10_whenWedge 7 = .ok (.ifCond .ne 6, 3) := by decide +kernel
theorem dX10_whenWedge_10 : decode cX10_whenWedge 10 = .ok (.ldc 72, 2) := by decide +kernel
theorem dX10_whenWedge_12 : decode cX10_whenWedge 12 = .ok (.ireturn, 1) := by decide +kernel
theorem dX10_whenWedge_13 : decode cX10_whenWedge 13 = .ok (.aload_n 0, 1) := by decide +kernel
theorem dX10_whenWedge_14 : decode cX10_whenWedge 14 = .ok (.invokevirtual 197, 3) := by decide +kernel
theorem dX10_whenWedge_17 : decode cX10_whenWedge 17 = .ok (.ifCond .ne 6, 3) := by decide +kernel
theorem dX10_whenWedge_20 : decode cX10_whenWedge 20 = .ok (.ldc 194, 2) := by decide +kernel
theorem dX10_whenWedge_22 : decode cX10_whenWedge 22 = .ok (.ireturn, 1) := by decide +kernel
theorem dX10_whenWedge_23 : decode cX10_whenWedge 23 = .ok (.aload_n 0, 1) := by decide +kernel
theorem dX10_whenWedge_24 : decode cX10_whenWedge 24 = .ok (.invokevirtual 233, 3) := by decide +kernel
theorem dX10_whenWedge_27 : decode cX10_whenWedge 27 = .ok (.istore_n 2, 1) := by decide +kernel
theorem dX10_whenWedge_28 : decode cX10_whenWedge 28 = .ok (.iconst (-1), 1) := by decide +kernel
theorem dX10_whenWedge_29 : decode cX10_whenWedge 29 = .ok (.istore_n 3, 1) := by decide +kernel
theorem dX10_whenWedge_30 : decode cX10_whenWedge 30 = .ok (.iload_n 2, 1) := by decide +kernel
theorem dX10_whenWedge_31 : decode cX10_whenWedge 31 = .ok (.istore 4, 2) := by decide +kernel
theorem dX10_whenWedge_33 : decode cX10_whenWedge 33 = .ok (.iconst 0, 1) := by decide +kernel
theorem dX10_whenWedge_34 : decode cX10_whenWedge 34 = .ok (.istore 5, 2) := by decide +kernel
theorem dX10_whenWedge_36 : decode cX10_whenWedge 36 = .ok (.iload 5, 2) := by decide +kernel
theorem dX10_whenWedge_38 : decode cX10_whenWedge 38 = .ok (.bipush 100, 2) := by decide +kernel
theorem dX10_whenWedge_40 : decode cX10_whenWedge 40 = .ok (.if_icmp .ge 123, 3) := by decide +kernel
theorem dX10_whenWedge_43 : decode cX10_whenWedge 43 = .ok (.aload_n 0, 1) := by decide +kernel
theorem dX10_whenWedge_44 : decode cX10_whenWedge 44 = .ok (.getfield 7, 3) := by decide +kernel
theorem dX10_whenWedge_47 : decode cX10_whenWedge 47 = .ok (.bipush 23, 2) := by decide +kernel
theorem dX10_whenWedge_49 : decode cX10_whenWedge 49 = .ok (.iaload, 1) := by decide +kernel
theorem dX10_whenWedge_50 : decode cX10_whenWedge 50 = .ok (.ifCond .ne 113, 3) := by decide +kernel
theorem dX10_whenWedge_53 : decode cX10_whenWedge 53 = .ok (.aload_n 0, 1) := by decide +kernel
theorem dX10_whenWedge_54 : decode cX10_whenWedge 54 = .ok (.iconst 0, 1) := by decide +kernel
theorem dX10_whenWedge_55 : decode cX10_whenWedge 55 = .ok (.bipush 28, 2) := by decide +kernel
theorem dX10_whenWedge_57 : decode cX10_whenWedge 57 = .ok (.invokevirtual 191, 3) := by decide +kernel
theorem dX10_whenWedge_60 : decode cX10_whenWedge 60 = .ok (.iconst 0, 1) := by decide +kernel
theorem dX10_whenWedge_61 : decode cX10_whenWedge 61 = .ok (.istore 6, 2) := by decide +kernel
theorem dX10_whenWedge_63 : decode cX10_whenWedge 63 = .ok (.iload 6, 2) := by decide +kernel
theorem dX10_whenWedge_65 : decode cX10_whenWedge 65 = .ok (.iload 5, 2) := by decide +kernel
theorem dX10_whenWedge_67 : decode cX10_whenWedge 67 = .ok (.if_icmp .ge 26, 3) := by decide +kernel
theorem dX10_whenWedge_70 : decode cX10_whenWedge 70 = .ok (.aload_n 0, 1) := by decide +kernel
theorem dX10_whenWedge_71 : decode cX10_whenWedge 71 = .ok (.bipush 28, 2) := by decide +kernel
theorem dX10_whenWedge_73 : decode cX10_whenWedge 73 = .ok (.invokevirtual 166, 3) := by decide +kernel
theorem dX10_whenWedge_76 : decode cX10_whenWedge 76 = .ok (.ifCond .ne 17, 3) := by decide +kernel
theorem dX10_whenWedge_79 : decode cX10_whenWedge 79 = .ok (.aload_n 0, 1) := by decide +kernel
theorem dX10_whenWedge_80 : decode cX10_whenWedge 80 = .ok (.bipush 28, 2) := by decide +kernel
theorem dX10_whenWedge_82 : decode cX10_whenWedge 82 = .ok (.invokevirtual 204, 3) := by decide +kernel
theorem dX10_whenWedge_85 : decode cX10_whenWedge 85 = .ok (.istore 7, 2) := by decide +kernel
theorem dX10_whenWedge_87 : decode cX10_whenWedge 87 = .ok (.iinc 6 1, 3) := by decide +kernel
theorem dX10_whenWedge_90 : decode cX10_whenWedge 90 = .ok (.goto (-27), 3) := by decide +kernel
theorem dX10_whenWedge_93 : decode cX10_whenWedge 93 = .ok (.aload_n 0, 1) := by decide +kernel
theorem dX10_whenWedge_94 : decode cX10_whenWedge 94 = .ok (.bipush 28, 2) := by decide +kernel
theorem dX10_whenWedge_96 : decode cX10_whenWedge 96 = .ok (.invokevirtual 166, 3) := by decide +kernel
theorem dX10_whenWedge_99 : decode cX10_whenWedge 99 = .ok (.ifCond .ne 58, 3) := by decide +kernel
theorem dX10_whenWedge_102 : decode cX10_whenWedge 102 = .ok (.aload_n 0, 1) := by decide +kernel
theorem dX10_whenWedge_103 : decode cX10_whenWedge 103 = .ok (.getfield 7, 3) := by decide +kernel
theorem dX10_whenWedge_106 : decode cX10_whenWedge 106 = .ok (.bipush 51, 2) := by decide +kernel
theorem dX10_whenWedge_108 : decode cX10_whenWedge 108 = .ok (.iconst 1, 1) := by decide +kernel
theorem dX10_whenWedge_109 : decode cX10_whenWedge 109 = .ok (.iastore, 1) := by decide +kernel
theorem dX10_whenWedge_110 : decode cX10_whenWedge 110 = .ok (.aload_n 0, 1) := by decide +kernel
theorem dX10_whenWedge_111 : decode cX10_whenWedge 111 = .ok (.sipush 999, 3) := by decide +kernel
theorem dX10_whenWedge_114 : decode cX10_whenWedge 114 = .ok (.iload 5, 2) := by decide +kernel
theorem dX10_whenWedge_116 : decode cX10_whenWedge 116 = .ok (.isub, 1) := by decide +kernel
theorem dX10_whenWedge_117 : decode cX10_whenWedge 117 = .ok (.invokevirtual 230, 3) := by decide +kernel
theorem dX10_whenWedge_120 : decode cX10_whenWedge 120 = .ok (.istore 6, 2) := by decide +kernel
theorem dX10_whenWedge_122 : decode cX10_whenWedge 122 = .ok (.iload 6, 2) := by decide +kernel
theorem dX10_whenWedge_124 : decode cX10_whenWedge 124 = .ok (.ldc 229, 2) := by decide +kernel
theorem dX10_whenWedge_126 : decode cX10_whenWedge 126 = .ok (.if_icmp .ne 8, 3) := by decide +kernel
theorem dX10_whenWedge_129 : decode cX10_whenWedge 129 = .ok (.ldc 229, 2) := by decide +kernel
theorem dX10_whenWedge_131 : decode cX10_whenWedge 131 = .ok (.goto 10, 3) := by decide +kernel
theorem dX10_whenWedge_134 : decode cX10_whenWedge 134 = .ok (.iload 5, 2) := by decide +kernel
theorem dX10_whenWedge_136 : decode cX10_whenWedge 136 = .ok (.iconst 3, 1) := by decide +kernel
theorem dX10_whenWedge_137 : decode cX10_whenWedge 137 = .ok (.iadd, 1) := by decide +kernel
theorem dX10_whenWedge_138 : decode cX10_whenWedge 138 = .ok (.iload 6, 2) := by decide +kernel
theorem dX10_whenWedge_140 : decode cX10_whenWedge 140 = .ok (.iadd, 1) := by decide +kernel
theorem dX10_whenWedge_141 : decode cX10_whenWedge 141 = .ok (.istore 7, 2) := by decide +kernel
theorem dX10_whenWedge_143 : decode cX10_whenWedge 143 = .ok (.iload 7, 2) := by decide +kernel
theorem dX10_whenWedge_145 : decode cX10_whenWedge 145 = .ok (.iload 4, 2) := by decide +kernel
theorem dX10_whenWedge_147 : decode cX10_whenWedge 147 = .ok (.if_icmp .ge 10, 3) := by decide +kernel
theorem dX10_whenWedge_150 : decode cX10_whenWedge 150 = .ok (.iload 5, 2) := by decide +kernel
theorem dX10_whenWedge_152 : decode cX10_whenWedge 152 = .ok (.istore_n 3, 1) := by decide +kernel
theorem dX10_whenWedge_153 : decode cX10_whenWedge 153 = .ok (.iload 7, 2) := by decide +kernel
theorem dX10_whenWedge_155 : decode cX10_whenWedge 155 = .ok (.istore 4, 2) := by decide +kernel
theorem dX10_whenWedge_157 : decode cX10_whenWedge 157 = .ok (.iinc 5 1, 3) := by decide +kernel
theorem dX10_whenWedge_160 : decode cX10_whenWedge 160 = .ok (.goto (-124), 3) := by decide +kernel
theorem dX10_whenWedge_163 : decode cX10_whenWedge 163 = .ok (.iload_n 3, 1) := by decide +kernel
theorem dX10_whenWedge_164 : decode cX10_whenWedge 164 = .ok (.ifCond .lt 7, 3) := by decide +kernel
theorem dX10_whenWedge_167 : decode cX10_whenWedge 167 = .ok (.iload_n 1, 1) := by decide +kernel
theorem dX10_whenWedge_168 : decode cX10_whenWedge 168 = .ok (.ifCond .ne 7, 3) := by decide +kernel
theorem dX10_whenWedge_171 : decode cX10_whenWedge 171 = .ok (.iload_n 3, 1) := by decide +kernel
theorem dX10_whenWedge_172 : decode cX10_whenWedge 172 = .ok (.goto 5, 3) := by decide +kernel
theorem dX10_whenWedge_175 : decode cX10_whenWedge 175 = .ok (.iload 4, 2) := by decide +kernel
theorem dX10_whenWedge_177 : decode cX10_whenWedge 177 = .ok (.ireturn, 1) := by decide +kernel
theorem dX10_depthBy_0 : decode cX10_depthBy 0 = .ok (.aload_n 0, 1) := by decide +kernel
theorem dX10_depthBy_1 : decode cX10_depthBy 1 = .ok (.iconst 0, 1) := by decide +kernel
theorem dX10_depthBy_2 : decode cX10_depthBy 2 = .ok (.bipush 28, 2) := by decide +kernel
theorem dX10_depthBy_4 : decode cX10_depthBy 4 = .ok (.invokevirtual 191, 3) := by decide +kernel
theorem dX10_depthBy_7 : decode cX10_depthBy 7 = .ok (.iconst 0, 1) := by decide +kernel
theorem dX10_depthBy_8 : decode cX10_depthBy 8 = .ok (.istore_n 3, 1) := by decide +kernel
theorem dX10_depthBy_9 : decode cX10_depthBy 9 = .ok (.iload_n 3, 1) := by decide +kernel
theorem dX10_depthBy_10 : decode cX10_depthBy 10 = .ok (.iload_n 1, 1) := by decide +kernel
theorem dX10_depthBy_11 : decode cX10_depthBy 11 = .ok (.if_icmp .ge 44, 3) := by decide +kernel
theorem dX10_depthBy_14 : decode cX10_depthBy 14 = .ok (.aload_n 0, 1) := by decide +kernel
theorem dX10_depthBy_15 : decode cX10_depthBy 15 = .ok (.bipush 28, 2) := by decide +kernel
theorem dX10_depthBy_17 : decode cX10_depthBy 17 = .ok (.invokevirtual 166, 3) := by decide +kernel
theorem dX10_depthBy_20 : decode cX10_depthBy 20 = .ok (.ifCond .ne 35, 3) := by decide +kernel
theorem dX10_depthBy_23 : decode cX10_depthBy 23 = .ok (.iload_n 2, 1) := by decide +kernel
theorem dX10_depthBy_24 : decode cX10_depthBy 24 = .ok (.iload_n 3, 1) := by decide +kernel
theorem dX10_depthBy_25 : decode cX10_depthBy 25 = .ok (.invokestatic 116, 3) := by decide +kernel
theorem dX10_depthBy_28 : decode cX10_depthBy 28 = .ok (.ifCond .eq 13, 3) := by decide +kernel
theorem dX10_depthBy_31 : decode cX10_depthBy 31 = .ok (.aload_n 0, 1) := by decide +kernel
theorem dX10_depthBy_32 : decode cX10_depthBy 32 = .ok (.bipush 28, 2) := by decide +kernel
theorem dX10_depthBy_34 : decode cX10_depthBy 34 = .ok (.iconst 1, 1) := by decide +kernel
theorem dX10_depthBy_35 : decode cX10_depthBy 35 = .ok (.invokevirtual 207, 3) := by decide +kernel
theorem dX10_depthBy_38 : decode cX10_depthBy 38 = .ok (.goto 11, 3) := by decide +kernel
theorem dX10_depthBy_41 : decode cX10_depthBy 41 = .ok (.aload_n 0, 1) := by decide +kernel
theorem dX10_depthBy_42 : decode cX10_depthBy 42 = .ok (.bipush 28, 2) := by decide +kernel
theorem dX10_depthBy_44 : decode cX10_depthBy 44 = .ok (.invokevirtual 204, 3) := by decide +kernel
theorem dX10_depthBy_47 : decode cX10_depthBy 47 = .ok (.istore 4, 2) := by decide +kernel
theorem dX10_depthBy_49 : decode cX10_depthBy 49 = .ok (.iinc 3 1, 3) := by decide +kernel
theorem dX10_depthBy_52 : decode cX10_depthBy 52 = .ok (.goto (-43), 3) := by decide +kernel
theorem dX10_depthBy_55 : decode cX10_depthBy 55 = .ok (.aload_n 0, 1) := by decide +kernel
end
section
theorem dX10_depthBy_56 : decode cX10_depthBy 56 = .ok (.getfield 7, 3) := by decide +kernel
theorem dX10_depthBy_59 : decode cX10_depthBy 59 = .ok (.bipush 47, 2) := by decide +kernel
theorem dX10_depthBy_61 : decode cX10_depthBy 61 = .ok (.iaload, 1) := by decide +kernel
theorem dX10_depthBy_62 : decode cX10_depthBy 62 = .ok (.ireturn, 1) := by decide +kernel
theorem dX10_ones_0 : decode cX10_ones 0 = .ok (.iconst 0, 1) := by decide +kernel
theorem dX10_ones_1 : decode cX10_ones 1 = .ok (.istore_n 1, 1) := by decide +kernel
theorem dX10_ones_2 : decode cX10_ones 2 = .ok (.iconst 0, 1) := by decide +kernel
theorem dX10_ones_3 : decode cX10_ones 3 = .ok (.istore_n 2, 1) := by decide +kernel
theorem dX10_ones_4 : decode cX10_ones 4 = .ok (.iload_n 2, 1) := by decide +kernel
theorem dX10_ones_5 : decode cX10_ones 5 = .ok (.bipush 10, 2) := by decide +kernel
theorem dX10_ones_7 : decode cX10_ones 7 = .ok (.if_icmp .ge 17, 3) := by decide +kernel
theorem dX10_ones_10 : decode cX10_ones 10 = .ok (.iload_n 1, 1) := by decide +kernel
theorem dX10_ones_11 : decode cX10_ones 11 = .ok (.iload_n 0, 1) := by decide +kernel
theorem dX10_ones_12 : decode cX10_ones 12 = .ok (.iload_n 2, 1) := by decide +kernel
theorem dX10_ones_13 : decode cX10_ones 13 = .ok (.ishr, 1) := by decide +kernel
theorem dX10_ones_14 : decode cX10_ones 14 = .ok (.iconst 1, 1) := by decide +kernel
theorem dX10_ones_15 : decode cX10_ones 15 = .ok (.iand, 1) := by decide +kernel
theorem dX10_ones_16 : decode cX10_ones 16 = .ok (.iadd, 1) := by decide +kernel
theorem dX10_ones_17 : decode cX10_ones 17 = .ok (.istore_n 1, 1) := by decide +kernel
theorem dX10_ones_18 : decode cX10_ones 18 = .ok (.iinc 2 1, 3) := by decide +kernel
theorem dX10_ones_21 : decode cX10_ones 21 = .ok (.goto (-17), 3) := by decide +kernel
theorem dX10_ones_24 : decode cX10_ones 24 = .ok (.iload_n 1, 1) := by decide +kernel
theorem dX10_ones_25 : decode cX10_ones 25 = .ok (.ireturn, 1) := by decide +kernel
theorem dX10_whenRest_0 : decode cX10_whenRest 0 = .ok (.iload_n 1, 1) := by decide +kernel
theorem dX10_whenRest_1 : decode cX10_whenRest 1 = .ok (.i2l, 1) := by decide +kernel
theorem dX10_whenRest_2 : decode cX10_whenRest 2 = .ok (.lconst 1, 1) := by decide +kernel
theorem dX10_whenRest_3 : decode cX10_whenRest 3 = .ok (.ldc2_w 255, 3) := by decide +kernel
theorem dX10_whenRest_6 : decode cX10_whenRest 6 = .ok (.invokestatic 68, 3) := by decide +kernel
theorem dX10_whenRest_9 : decode cX10_whenRest 9 = .ok (.ifCond .eq 13, 3) := by decide +kernel
theorem dX10_whenRest_12 : decode cX10_whenRest 12 = .ok (.iload_n 2, 1) := by decide +kernel
theorem dX10_whenRest_13 : decode cX10_whenRest 13 = .ok (.i2l, 1) := by decide +kernel
theorem dX10_whenRest_14 : decode cX10_whenRest 14 = .ok (.lconst 0, 1) := by decide +kernel
theorem dX10_whenRest_15 : decode cX10_whenRest 15 = .ok (.lconst 1, 1) := by decide +kernel
theorem dX10_whenRest_16 : decode cX10_whenRest 16 = .ok (.invokestatic 68, 3) := by decide +kernel
theorem dX10_whenRest_19 : decode cX10_whenRest 19 = .ok (.ifCond .ne 6, 3) := by decide +kernel
theorem dX10_whenRest_22 : decode cX10_whenRest 22 = .ok (.ldc 72, 2) := by decide +kernel
theorem dX10_whenRest_24 : decode cX10_whenRest 24 = .ok (.ireturn, 1) := by decide +kernel
theorem dX10_whenRest_25 : decode cX10_whenRest 25 = .ok (.aload_n 0, 1) := by decide +kernel
theorem dX10_whenRest_26 : decode cX10_whenRest 26 = .ok (.invokevirtual 197, 3) := by decide +kernel
theorem dX10_whenRest_29 : decode cX10_whenRest 29 = .ok (.ifCond .ne 6, 3) := by decide +kernel
theorem dX10_whenRest_32 : decode cX10_whenRest 32 = .ok (.ldc 194, 2) := by decide +kernel
theorem dX10_whenRest_34 : decode cX10_whenRest 34 = .ok (.ireturn, 1) := by decide +kernel
theorem dX10_whenRest_35 : decode cX10_whenRest 35 = .ok (.iconst 0, 1) := by decide +kernel
theorem dX10_whenRest_36 : decode cX10_whenRest 36 = .ok (.istore_n 3, 1) := by decide +kernel
theorem dX10_whenRest_37 : decode cX10_whenRest 37 = .ok (.iconst (-1), 1) := by decide +kernel
theorem dX10_whenRest_38 : decode cX10_whenRest 38 = .ok (.istore 4, 2) := by decide +kernel
theorem dX10_whenRest_40 : decode cX10_whenRest 40 = .ok (.iconst 0, 1) := by decide +kernel
theorem dX10_whenRest_41 : decode cX10_whenRest 41 = .ok (.istore 5, 2) := by decide +kernel
theorem dX10_whenRest_43 : decode cX10_whenRest 43 = .ok (.iload 5, 2) := by decide +kernel
theorem dX10_whenRest_45 : decode cX10_whenRest 45 = .ok (.iconst 1, 1) := by decide +kernel
theorem dX10_whenRest_46 : decode cX10_whenRest 46 = .ok (.iload_n 1, 1) := by decide +kernel
theorem dX10_whenRest_47 : decode cX10_whenRest 47 = .ok (.ishl, 1) := by decide +kernel
theorem dX10_whenRest_48 : decode cX10_whenRest 48 = .ok (.if_icmp .ge 88, 3) := by decide +kernel
theorem dX10_whenRest_51 : decode cX10_whenRest 51 = .ok (.iconst 0, 1) := by decide +kernel
theorem dX10_whenRest_52 : decode cX10_whenRest 52 = .ok (.istore 6, 2) := by decide +kernel
theorem dX10_whenRest_54 : decode cX10_whenRest 54 = .ok (.iconst 0, 1) := by decide +kernel
theorem dX10_whenRest_55 : decode cX10_whenRest 55 = .ok (.istore 7, 2) := by decide +kernel
theorem dX10_whenRest_57 : decode cX10_whenRest 57 = .ok (.iload 7, 2) := by decide +kernel
theorem dX10_whenRest_59 : decode cX10_whenRest 59 = .ok (.iload_n 1, 1) := by decide +kernel
theorem dX10_whenRest_60 : decode cX10_whenRest 60 = .ok (.if_icmp .ge 28, 3) := by decide +kernel
theorem dX10_whenRest_63 : decode cX10_whenRest 63 = .ok (.iload 6, 2) := by decide +kernel
theorem dX10_whenRest_65 : decode cX10_whenRest 65 = .ok (.iload 5, 2) := by decide +kernel
theorem dX10_whenRest_67 : decode cX10_whenRest 67 = .ok (.iload_n 1, 1) := by decide +kernel
theorem dX10_whenRest_68 : decode cX10_whenRest 68 = .ok (.iconst 1, 1) := by decide +kernel
theorem dX10_whenRest_69 : decode cX10_whenRest 69 = .ok (.isub, 1) := by decide +kernel
theorem dX10_whenRest_70 : decode cX10_whenRest 70 = .ok (.iload 7, 2) := by decide +kernel
theorem dX10_whenRest_72 : decode cX10_whenRest 72 = .ok (.isub, 1) := by decide +kernel
theorem dX10_whenRest_73 : decode cX10_whenRest 73 = .ok (.ishr, 1) := by decide +kernel
theorem dX10_whenRest_74 : decode cX10_whenRest 74 = .ok (.iconst 1, 1) := by decide +kernel
theorem dX10_whenRest_75 : decode cX10_whenRest 75 = .ok (.iand, 1) := by decide +kernel
theorem dX10_whenRest_76 : decode cX10_whenRest 76 = .ok (.iload 7, 2) := by decide +kernel
theorem dX10_whenRest_78 : decode cX10_whenRest 78 = .ok (.ishl, 1) := by decide +kernel
theorem dX10_whenRest_79 : decode cX10_whenRest 79 = .ok (.ior, 1) := by decide +kernel
theorem dX10_whenRest_80 : decode cX10_whenRest 80 = .ok (.istore 6, 2) := by decide +kernel
theorem dX10_whenRest_82 : decode cX10_whenRest 82 = .ok (.iinc 7 1, 3) := by decide +kernel
theorem dX10_whenRest_85 : decode cX10_whenRest 85 = .ok (.goto (-28), 3) := by decide +kernel
theorem dX10_whenRest_88 : decode cX10_whenRest 88 = .ok (.aload_n 0, 1) := by decide +kernel
theorem dX10_whenRest_89 : decode cX10_whenRest 89 = .ok (.iload_n 1, 1) := by decide +kernel
theorem dX10_whenRest_90 : decode cX10_whenRest 90 = .ok (.iload 6, 2) := by decide +kernel
theorem dX10_whenRest_92 : decode cX10_whenRest 92 = .ok (.invokevirtual 257, 3) := by decide +kernel
theorem dX10_whenRest_95 : decode cX10_whenRest 95 = .ok (.istore 7, 2) := by decide +kernel
theorem dX10_whenRest_97 : decode cX10_whenRest 97 = .ok (.iload 7, 2) := by decide +kernel
theorem dX10_whenRest_99 : decode cX10_whenRest 99 = .ok (.iload 4, 2) := by decide +kernel
theorem dX10_whenRest_101 : decode cX10_whenRest 101 = .ok (.if_icmp .gt 22, 3) := by decide +kernel
theorem dX10_whenRest_104 : decode cX10_whenRest 104 = .ok (.iload 7, 2) := by decide +kernel
theorem dX10_whenRest_106 : decode cX10_whenRest 106 = .ok (.iload 4, 2) := by decide +kernel
theorem dX10_whenRest_108 : decode cX10_whenRest 108 = .ok (.if_icmp .ne 22, 3) := by decide +kernel
theorem dX10_whenRest_111 : decode cX10_whenRest 111 = .ok (.iload 6, 2) := by decide +kernel
theorem dX10_whenRest_113 : decode cX10_whenRest 113 = .ok (.invokestatic 260, 3) := by decide +kernel
theorem dX10_whenRest_116 : decode cX10_whenRest 116 = .ok (.iload_n 3, 1) := by decide +kernel
theorem dX10_whenRest_117 : decode cX10_whenRest 117 = .ok (.invokestatic 260, 3) := by decide +kernel
theorem dX10_whenRest_120 : decode cX10_whenRest 120 = .ok (.if_icmp .ge 10, 3) := by decide +kernel
theorem dX10_whenRest_123 : decode cX10_whenRest 123 = .ok (.iload 6, 2) := by decide +kernel
theorem dX10_whenRest_125 : decode cX10_whenRest 125 = .ok (.istore_n 3, 1) := by decide +kernel
theorem dX10_whenRest_126 : decode cX10_whenRest 126 = .ok (.iload 7, 2) := by decide +kernel
theorem dX10_whenRest_128 : decode cX10_whenRest 128 = .ok (.istore 4, 2) := by decide +kernel
theorem dX10_whenRest_130 : decode cX10_whenRest 130 = .ok (.iinc 5 1, 3) := by decide +kernel
theorem dX10_whenRest_133 : decode cX10_whenRest 133 = .ok (.goto (-90), 3) := by decide +kernel
theorem dX10_whenRest_136 : decode cX10_whenRest 136 = .ok (.iload_n 2, 1) := by decide +kernel
theorem dX10_whenRest_137 : decode cX10_whenRest 137 = .ok (.ifCond .ne 8, 3) := by decide +kernel
theorem dX10_whenRest_140 : decode cX10_whenRest 140 = .ok (.iload 4, 2) := by decide +kernel
theorem dX10_whenRest_142 : decode cX10_whenRest 142 = .ok (.goto 4, 3) := by decide +kernel
theorem dX10_whenRest_145 : decode cX10_whenRest 145 = .ok (.iload_n 3, 1) := by decide +kernel
theorem dX10_whenRest_146 : decode cX10_whenRest 146 = .ok (.ireturn, 1) := by decide +kernel
theorem dX10_worthFile_0 : decode cX10_worthFile 0 = .ok (.aload_n 0, 1) := by decide +kernel
theorem dX10_worthFile_1 : decode cX10_worthFile 1 = .ok (.invokevirtual 197, 3) := by decide +kernel
theorem dX10_worthFile_4 : decode cX10_worthFile 4 = .ok (.ifCond .ne 6, 3) := by decide +kernel
theorem dX10_worthFile_7 : decode cX10_worthFile 7 = .ok (.ldc 194, 2) := by decide +kernel
theorem dX10_worthFile_9 : decode cX10_worthFile 9 = .ok (.ireturn, 1) := by decide +kernel
theorem dX10_worthFile_10 : decode cX10_worthFile 10 = .ok (.aload_n 0, 1) := by decide +kernel
theorem dX10_worthFile_11 : decode cX10_worthFile 11 = .ok (.invokevirtual 233, 3) := by decide +kernel
theorem dX10_worthFile_14 : decode cX10_worthFile 14 = .ok (.istore_n 1, 1) := by decide +kernel
theorem dX10_worthFile_15 : decode cX10_worthFile 15 = .ok (.aload_n 0, 1) := by decide +kernel
theorem dX10_worthFile_16 : decode cX10_worthFile 16 = .ok (.iconst 0, 1) := by decide +kernel
theorem dX10_worthFile_17 : decode cX10_worthFile 17 = .ok (.bipush 28, 2) := by decide +kernel
theorem dX10_worthFile_19 : decode cX10_worthFile 19 = .ok (.invokevirtual 191, 3) := by decide +kernel
theorem dX10_worthFile_22 : decode cX10_worthFile 22 = .ok (.aload_n 0, 1) := by decide +kernel
theorem dX10_worthFile_23 : decode cX10_worthFile 23 = .ok (.getfield 7, 3) := by decide +kernel
theorem dX10_worthFile_26 : decode cX10_worthFile 26 = .ok (.bipush 52, 2) := by decide +kernel
theorem dX10_worthFile_28 : decode cX10_worthFile 28 = .ok (.dup2, 1) := by decide +kernel
theorem dX10_worthFile_29 : decode cX10_worthFile 29 = .ok (.iaload, 1) := by decide +kernel
theorem dX10_worthFile_30 : decode cX10_worthFile 30 = .ok (.aload_n 0, 1) := by decide +kernel
theorem dX10_worthFile_31 : decode cX10_worthFile 31 = .ok (.getfield 7, 3) := by decide +kernel
theorem dX10_worthFile_34 : decode cX10_worthFile 34 = .ok (.bipush 52, 2) := by decide +kernel
theorem dX10_worthFile_36 : decode cX10_worthFile 36 = .ok (.iaload, 1) := by decide +kernel
theorem dX10_worthFile_37 : decode cX10_worthFile 37 = .ok (.bipush 9, 2) := by decide +kernel
theorem dX10_worthFile_39 : decode cX10_worthFile 39 = .ok (.if_icmp .ge 7, 3) := by decide +kernel
theorem dX10_worthFile_42 : decode cX10_worthFile 42 = .ok (.iconst 1, 1) := by decide +kernel
theorem dX10_worthFile_43 : decode cX10_worthFile 43 = .ok (.goto 4, 3) := by decide +kernel
theorem dX10_worthFile_46 : decode cX10_worthFile 46 = .ok (.iconst 0, 1) := by decide +kernel
theorem dX10_worthFile_47 : decode cX10_worthFile 47 = .ok (.iadd, 1) := by decide +kernel
theorem dX10_worthFile_48 : decode cX10_worthFile 48 = .ok (.iastore, 1) := by decide +kernel
theorem dX10_worthFile_49 : decode cX10_worthFile 49 = .ok (.aload_n 0, 1) := by decide +kernel
theorem dX10_worthFile_50 : decode cX10_worthFile 50 = .ok (.sipush 999, 3) := by decide +kernel
theorem dX10_worthFile_53 : decode cX10_worthFile 53 = .ok (.invokevirtual 230, 3) := by decide +kernel
theorem dX10_worthFile_56 : decode cX10_worthFile 56 = .ok (.istore_n 2, 1) := by decide +kernel
theorem dX10_worthFile_57 : decode cX10_worthFile 57 = .ok (.iload_n 1, 1) := by decide +kernel
theorem dX10_worthFile_58 : decode cX10_worthFile 58 = .ok (.ldc 229, 2) := by decide +kernel
theorem dX10_worthFile_60 : decode cX10_worthFile 60 = .ok (.if_icmp .ne 9, 3) := by decide +kernel
theorem dX10_worthFile_63 : decode cX10_worthFile 63 = .ok (.sipush 1000, 3) := by decide +kernel
theorem dX10_worthFile_66 : decode cX10_worthFile 66 = .ok (.goto 4, 3) := by decide +kernel
theorem dX10_worthFile_69 : decode cX10_worthFile 69 = .ok (.iload_n 1, 1) := by decide +kernel
theorem dX10_worthFile_70 : decode cX10_worthFile 70 = .ok (.iload_n 2, 1) := by decide +kernel
theorem dX10_worthFile_71 : decode cX10_worthFile 71 = .ok (.ldc 229, 2) := by decide +kernel
theorem dX10_worthFile_73 : decode cX10_worthFile 73 = .ok (.if_icmp .ne 9, 3) := by decide +kernel
theorem dX10_worthFile_76 : decode cX10_worthFile 76 = .ok (.sipush 1000, 3) := by decide +kernel
theorem dX10_worthFile_79 : decode cX10_worthFile 79 = .ok (.goto 4, 3) := by decide +kernel
theorem dX10_worthFile_82 : decode cX10_worthFile 82 = .ok (.iload_n 2, 1) := by decide +kernel
theorem dX10_worthFile_83 : decode cX10_worthFile 83 = .ok (.isub, 1) := by decide +kernel
theorem dX10_worthFile_84 : decode cX10_worthFile 84 = .ok (.bipush 20, 2) := by decide +kernel
theorem dX10_worthFile_86 : decode cX10_worthFile 86 = .ok (.isub, 1) := by decide +kernel
theorem dX10_worthFile_87 : decode cX10_worthFile 87 = .ok (.ireturn, 1) := by decide +kernel
theorem dX10_see_0 : decode cX10_see 0 = .ok (.iload_n 1, 1) := by decide +kernel
theorem dX10_see_1 : decode cX10_see 1 = .ok (.i2l, 1) := by decide +kernel
theorem dX10_see_2 : decode cX10_see 2 = .ok (.lconst 0, 1) := by decide +kernel
theorem dX10_see_3 : decode cX10_see 3 = .ok (.ldc2_w 250, 3) := by decide +kernel
theorem dX10_see_6 : decode cX10_see 6 = .ok (.invokestatic 68, 3) := by decide +kernel
theorem dX10_see_9 : decode cX10_see 9 = .ok (.ifCond .ne 6, 3) := by decide +kernel
theorem dX10_see_12 : decode cX10_see 12 = .ok (.ldc 72, 2) := by decide +kernel
theorem dX10_see_14 : decode cX10_see 14 = .ok (.ireturn, 1) := by decide +kernel
theorem dX10_see_15 : decode cX10_see 15 = .ok (.aload_n 0, 1) := by decide +kernel
theorem dX10_see_16 : decode cX10_see 16 = .ok (.getfield 157, 3) := by decide +kernel
theorem dX10_see_19 : decode cX10_see 19 = .ok (.bipush 8, 2) := by decide +kernel
theorem dX10_see_21 : decode cX10_see 21 = .ok (.if_icmp .ne 6, 3) := by decide +kernel
theorem dX10_see_24 : decode cX10_see 24 = .ok (.ldc 76, 2) := by decide +kernel
theorem dX10_see_26 : decode cX10_see 26 = .ok (.ireturn, 1) := by decide +kernel
theorem dX10_see_27 : decode cX10_see 27 = .ok (.aload_n 0, 1) := by decide +kernel
theorem dX10_see_28 : decode cX10_see 28 = .ok (.getfield 54, 3) := by decide +kernel
theorem dX10_see_31 : decode cX10_see 31 = .ok (.aload_n 0, 1) := by decide +kernel
theorem dX10_see_32 : decode cX10_see 32 = .ok (.getfield 157, 3) := by decide +kernel
theorem dX10_see_35 : decode cX10_see 35 = .ok (.iload_n 1, 1) := by decide +kernel
theorem dX10_see_36 : decode cX10_see 36 = .ok (.iastore, 1) := by decide +kernel
theorem dX10_see_37 : decode cX10_see 37 = .ok (.aload_n 0, 1) := by decide +kernel
theorem dX10_see_38 : decode cX10_see 38 = .ok (.dup, 1) := by decide +kernel
theorem dX10_see_39 : decode cX10_see 39 = .ok (.getfield 157, 3) := by decide +kernel
theorem dX10_see_42 : decode cX10_see 42 = .ok (.iconst 1, 1) := by decide +kernel
theorem dX10_see_43 : decode cX10_see 43 = .ok (.iadd, 1) := by decide +kernel
theorem dX10_see_44 : decode cX10_see 44 = .ok (.putfield 157, 3) := by decide +kernel
theorem dX10_see_47 : decode cX10_see 47 = .ok (.aload_n 0, 1) := by decide +kernel
theorem dX10_see_48 : decode cX10_see 48 = .ok (.getfield 157, 3) := by decide +kernel
theorem dX10_see_51 : decode cX10_see 51 = .ok (.ireturn, 1) := by decide +kernel
theorem dX10_isAsSeen_0 : decode cX10_isAsSeen 0 = .ok (.iconst 1, 1) := by decide +kernel
theorem dX10_isAsSeen_1 : decode cX10_isAsSeen 1 = .ok (.istore_n 1, 1) := by decide +kernel
theorem dX10_isAsSeen_2 : decode cX10_isAsSeen 2 = .ok (.iconst 0, 1) := by decide +kernel
theorem dX10_isAsSeen_3 : decode cX10_isAsSeen 3 = .ok (.istore_n 2, 1) := by decide +kernel
theorem dX10_isAsSeen_4 : decode cX10_isAsSeen 4 = .ok (.iload_n 2, 1) := by decide +kernel
theorem dX10_isAsSeen_5 : decode cX10_isAsSeen 5 = .ok (.aload_n 0, 1) := by decide +kernel
theorem dX10_isAsSeen_6 : decode cX10_isAsSeen 6 = .ok (.getfield 157, 3) := by decide +kernel
theorem dX10_isAsSeen_9 : decode cX10_isAsSeen 9 = .ok (.if_icmp .ge 43, 3) := by decide +kernel
theorem dX10_isAsSeen_12 : decode cX10_isAsSeen 12 = .ok (.iload_n 1, 1) := by decide +kernel
theorem dX10_isAsSeen_13 : decode cX10_isAsSeen 13 = .ok (.ifCond .eq 39, 3) := by decide +kernel
theorem dX10_isAsSeen_16 : decode cX10_isAsSeen 16 = .ok (.aload_n 0, 1) := by decide +kernel
theorem dX10_isAsSeen_17 : decode cX10_isAsSeen 17 = .ok (.bipush 28, 2) := by decide +kernel
theorem dX10_isAsSeen_19 : decode cX10_isAsSeen 19 = .ok (.invokevirtual 166, 3) := by decide +kernel
theorem dX10_isAsSeen_22 : decode cX10_isAsSeen 22 = .ok (.ifCond .ne 22, 3) := by decide +kernel
theorem dX10_isAsSeen_25 : decode cX10_isAsSeen 25 = .ok (.aload_n 0, 1) := by decide +kernel
theorem dX10_isAsSeen_26 : decode cX10_isAsSeen 26 = .ok (.bipush 28, 2) := by decide +kernel
theorem dX10_isAsSeen_28 : decode cX10_isAsSeen 28 = .ok (.invokevirtual 204, 3) := by decide +kernel
theorem dX10_isAsSeen_31 : decode cX10_isAsSeen 31 = .ok (.aload_n 0, 1) := by decide +kernel
theorem dX10_isAsSeen_32 : decode cX10_isAsSeen 32 = .ok (.getfield 54, 3) := by decide +kernel
theorem dX10_isAsSeen_35 : decode cX10_isAsSeen 35 = .ok (.iload_n 2, 1) := by decide +kernel
theorem dX10_isAsSeen_36 : decode cX10_isAsSeen 36 = .ok (.iaload, 1) := by decide +kernel
theorem dX10_isAsSeen_37 : decode cX10_isAsSeen 37 = .ok (.if_icmp .ne 7, 3) := by decide +kernel
theorem dX10_isAsSeen_40 : decode cX10_isAsSeen 40 = .ok (.iconst 1, 1) := by decide +kernel
theorem dX10_isAsSeen_41 : decode cX10_isAsSeen 41 = .ok (.goto 4, 3) := by decide +kernel
theorem dX10_isAsSeen_44 : decode cX10_isAsSeen 44 = .ok (.iconst 0, 1) := by decide +kernel
theorem dX10_isAsSeen_45 : decode cX10_isAsSeen 45 = .ok (.istore_n 1, 1) := by decide +kernel
theorem dX10_isAsSeen_46 : decode cX10_isAsSeen 46 = .ok (.iinc 2 1, 3) := by decide +kernel
theorem dX10_isAsSeen_49 : decode cX10_isAsSeen 49 = .ok (.goto (-45), 3) := by decide +kernel
theorem dX10_isAsSeen_52 : decode cX10_isAsSeen 52 = .ok (.iload_n 1, 1) := by decide +kernel
theorem dX10_isAsSeen_53 : decode cX10_isAsSeen 53 = .ok (.ireturn, 1) := by decide +kernel
theorem dX10_habits_0 : decode cX10_habits 0 = .ok (.aload_n 0, 1) := by decide +kernel
theorem dX10_habits_1 : decode cX10_habits 1 = .ok (.iload_n 1, 1) := by decide +kernel
theorem dX10_habits_2 : decode cX10_habits 2 = .ok (.iload_n 2, 1) := by decide +kernel
theorem dX10_habits_3 : decode cX10_habits 3 = .ok (.invokevirtual 239, 3) := by decide +kernel
theorem dX10_habits_6 : decode cX10_habits 6 = .ok (.ifCond .ge 10, 3) := by decide +kernel
theorem dX10_habits_9 : decode cX10_habits 9 = .ok (.aload_n 0, 1) := by decide +kernel
theorem dX10_habits_10 : decode cX10_habits 10 = .ok (.iload_n 1, 1) := by decide +kernel
theorem dX10_habits_11 : decode cX10_habits 11 = .ok (.iload_n 2, 1) := by decide +kernel
theorem dX10_habits_12 : decode cX10_habits 12 = .ok (.invokevirtual 239, 3) := by decide +kernel
theorem dX10_habits_15 : decode cX10_habits 15 = .ok (.ireturn, 1) := by decide +kernel
theorem dX10_habits_16 : decode cX10_habits 16 = .ok (.iconst 0, 1) := by decide +kernel
theorem dX10_habits_17 : decode cX10_habits 17 = .ok (.istore_n 3, 1) := by decide +kernel
theorem dX10_habits_18 : decode cX10_habits 18 = .ok (.iconst 0, 1) := by decide +kernel
theorem dX10_habits_19 : decode cX10_habits 19 = .ok (.istore 4, 2) := by decide +kernel
theorem dX10_habits_21 : decode cX10_habits 21 = .ok (.iload 4, 2) := by decide +kernel
theorem dX10_habits_23 : decode cX10_habits 23 = .ok (.bipush 10, 2) := by decide +kernel
theorem dX10_habits_25 : decode cX10_habits 25 = .ok (.if_icmp .ge 39, 3) := by decide +kernel
theorem dX10_habits_28 : decode cX10_habits 28 = .ok (.aload_n 0, 1) := by decide +kernel
theorem dX10_habits_29 : decode cX10_habits 29 = .ok (.iload_n 1, 1) := by decide +kernel
theorem dX10_habits_30 : decode cX10_habits 30 = .ok (.iload_n 2, 1) := by decide +kernel
theorem dX10_habits_31 : decode cX10_habits 31 = .ok (.invokevirtual 236, 3) := by decide +kernel
theorem dX10_habits_34 : decode cX10_habits 34 = .ok (.aload_n 0, 1) := by decide +kernel
theorem dX10_habits_35 : decode cX10_habits 35 = .ok (.getfield 7, 3) := by decide +kernel
theorem dX10_habits_38 : decode cX10_habits 38 = .ok (.bipush 40, 2) := by decide +kernel
theorem dX10_habits_40 : decode cX10_habits 40 = .ok (.iload_n 2, 1) := by decide +kernel
theorem dX10_habits_41 : decode cX10_habits 41 = .ok (.iadd, 1) := by decide +kernel
theorem dX10_habits_42 : decode cX10_habits 42 = .ok (.iload 4, 2) := by decide +kernel
theorem dX10_habits_44 : decode cX10_habits 44 = .ok (.iastore, 1) := by decide +kernel
theorem dX10_habits_45 : decode cX10_habits 45 = .ok (.iload_n 3, 1) := by decide +kernel
theorem dX10_habits_46 : decode cX10_habits 46 = .ok (.aload_n 0, 1) := by decide +kernel
theorem dX10_habits_47 : decode cX10_habits 47 = .ok (.invokevirtual 263, 3) := by decide +kernel
theorem dX10_habits_50 : decode cX10_habits 50 = .ok (.invokestatic 170, 3) := by decide +kernel
theorem dX10_habits_53 : decode cX10_habits 53 = .ok (.iload 4, 2) := by decide +kernel
theorem dX10_habits_55 : decode cX10_habits 55 = .ok (.ishl, 1) := by decide +kernel
theorem dX10_habits_56 : decode cX10_habits 56 = .ok (.ior, 1) := by decide +kernel
theorem dX10_habits_57 : decode cX10_habits 57 = .ok (.istore_n 3, 1) := by decide +kernel
theorem dX10_habits_58 : decode cX10_habits 58 = .ok (.iinc 4 1, 3) := by decide +kernel
theorem dX10_habits_61 : decode cX10_habits 61 = .ok (.goto (-40), 3) := by decide +kernel
theorem dX10_habits_64 : decode cX10_habits 64 = .ok (.iload_n 3, 1) := by decide +kernel
theorem dX10_habits_65 : decode cX10_habits 65 = .ok (.ireturn, 1) := by decide +kernel
theorem dX10_end_0 : decode cX10_end 0 = .ok (.aload_n 0, 1) := by decide +kernel
theorem dX10_end_1 : decode cX10_end 1 = .ok (.getfield 144, 3) := by decide +kernel
theorem dX10_end_4 : decode cX10_end 4 = .ok (.ifCond .ne 6, 3) := by decide +kernel
theorem dX10_end_7 : decode cX10_end 7 = .ok (.ldc 194, 2) := by decide +kernel
theorem dX10_end_9 : decode cX10_end 9 = .ok (.ireturn, 1) := by decide +kernel
theorem dX10_end_10 : decode cX10_end 10 = .ok (.iconst 0, 1) := by decide +kernel
theorem dX10_end_11 : decode cX10_end 11 = .ok (.istore_n 2, 1) := by decide +kernel
theorem dX10_end_12 : decode cX10_end 12 = .ok (.iconst 0, 1) := by decide +kernel
theorem dX10_end_13 : decode cX10_end 13 = .ok (.istore_n 3, 1) := by decide +kernel
theorem dX10_end_14 : decode cX10_end 14 = .ok (.iload_n 3, 1) := by decide +kernel
theorem dX10_end_15 : decode cX10_end 15 = .ok (.aload_n 0, 1) := by decide +kernel
theorem dX10_end_16 : decode cX10_end 16 = .ok (.getfield 147, 3) := by decide +kernel
theorem dX10_end_19 : decode cX10_end 19 = .ok (.if_icmp .ge 63, 3) := by decide +kernel
theorem dX10_end_22 : decode cX10_end 22 = .ok (.iconst 0, 1) := by decide +kernel
theorem dX10_end_23 : decode cX10_end 23 = .ok (.istore 4, 2) := by decide +kernel
theorem dX10_end_25 : decode cX10_end 25 = .ok (.iload 4, 2) := by decide +kernel
theorem dX10_end_27 : decode cX10_end 27 = .ok (.aload_n 0, 1) := by decide +kernel
theorem dX10_end_28 : decode cX10_end 28 = .ok (.getfield 147, 3) := by decide +kernel
theorem dX10_end_31 : decode cX10_end 31 = .ok (.if_icmp .ge 45, 3) := by decide +kernel
theorem dX10_end_34 : decode cX10_end 34 = .ok (.iload_n 3, 1) := by decide +kernel
theorem dX10_end_35 : decode cX10_end 35 = .ok (.iload 4, 2) := by decide +kernel
theorem dX10_end_37 : decode cX10_end 37 = .ok (.if_icmp .eq 33, 3) := by decide +kernel
theorem dX10_end_40 : decode cX10_end 40 = .ok (.aload_n 0, 1) := by decide +kernel
theorem dX10_end_41 : decode cX10_end 41 = .ok (.iload_n 3, 1) := by decide +kernel
theorem dX10_end_42 : decode cX10_end 42 = .ok (.iload 4, 2) := by decide +kernel
theorem dX10_end_44 : decode cX10_end 44 = .ok (.invokevirtual 236, 3) := by decide +kernel
theorem dX10_end_47 : decode cX10_end 47 = .ok (.aload_n 0, 1) := by decide +kernel
theorem dX10_end_48 : decode cX10_end 48 = .ok (.invokevirtual 263, 3) := by decide +kernel
theorem dX10_end_51 : decode cX10_end 51 = .ok (.ifCond .eq 19, 3) := by decide +kernel
theorem dX10_end_54 : decode cX10_end 54 = .ok (.iload_n 2, 1) := by decide +kernel
theorem dX10_end_55 : decode cX10_end 55 = .ok (.iload_n 1, 1) := by decide +kernel
theorem dX10_end_56 : decode cX10_end 56 = .ok (.if_icmp .ne 11, 3) := by decide +kernel
theorem dX10_end_59 : decode cX10_end 59 = .ok (.bipush 10, 2) := by decide +kernel
theorem dX10_end_61 : decode cX10_end 61 = .ok (.iload_n 3, 1) := by decide +kernel
theorem dX10_end_62 : decode cX10_end 62 = .ok (.imul, 1) := by decide +kernel
theorem dX10_end_63 : decode cX10_end 63 = .ok (.iload 4, 2) := by decide +kernel
theorem dX10_end_65 : decode cX10_end 65 = .ok (.iadd, 1) := by decide +kernel
theorem dX10_end_66 : decode cX10_end 66 = .ok (.ireturn, 1) := by decide +kernel
theorem dX10_end_67 : decode cX10_end 67 = .ok (.iinc 2 1, 3) := by decide +kernel
theorem dX10_end_70 : decode cX10_end 70 = .ok (.iinc 4 1, 3) := by decide +kernel
theorem dX10_end_73 : decode cX10_end 73 = .ok (.goto (-48), 3) := by decide +kernel
theorem dX10_end_76 : decode cX10_end 76 = .ok (.iinc 3 1, 3) := by decide +kernel
theorem dX10_end_79 : decode cX10_end 79 = .ok (.goto (-65), 3) := by decide +kernel
theorem dX10_end_82 : decode cX10_end 82 = .ok (.iload_n 1, 1) := by decide +kernel
theorem dX10_end_83 : decode cX10_end 83 = .ok (.iconst (-1), 1) := by decide +kernel
theorem dX10_end_84 : decode cX10_end 84 = .ok (.if_icmp .ne 7, 3) := by decide +kernel
theorem dX10_end_87 : decode cX10_end 87 = .ok (.iload_n 2, 1) := by decide +kernel
theorem dX10_end_88 : decode cX10_end 88 = .ok (.goto 4, 3) := by decide +kernel
theorem dX10_end_91 : decode cX10_end 91 = .ok (.iconst (-1), 1) := by decide +kernel
theorem dX10_end_92 : decode cX10_end 92 = .ok (.ireturn, 1) := by decide +kernel
theorem dX10_write_0 : decode cX10_write 0 = .ok (.iload_n 1, 1) := by decide +kernel
theorem dX10_write_1 : decode cX10_write 1 = .ok (.i2l, 1) := by decide +kernel
theorem dX10_write_2 : decode cX10_write 2 = .ok (.lconst 0, 1) := by decide +kernel
theorem dX10_write_3 : decode cX10_write 3 = .ok (.ldc2_w 250, 3) := by decide +kernel
theorem dX10_write_6 : decode cX10_write 6 = .ok (.invokestatic 68, 3) := by decide +kernel
theorem dX10_write_9 : decode cX10_write 9 = .ok (.ifCond .ne 6, 3) := by decide +kernel
theorem dX10_write_12 : decode cX10_write 12 = .ok (.ldc 72, 2) := by decide +kernel
theorem dX10_write_14 : decode cX10_write 14 = .ok (.ireturn, 1) := by decide +kernel
theorem dX10_write_15 : decode cX10_write 15 = .ok (.aload_n 0, 1) := by decide +kernel
theorem dX10_write_16 : decode cX10_write 16 = .ok (.getfield 160, 3) := by decide +kernel
theorem dX10_write_19 : decode cX10_write 19 = .ok (.bipush 20, 2) := by decide +kernel
theorem dX10_write_21 : decode cX10_write 21 = .ok (.if_icmp .ne 6, 3) := by decide +kernel
theorem dX10_write_24 : decode cX10_write 24 = .ok (.ldc 76, 2) := by decide +kernel
theorem dX10_write_26 : decode cX10_write 26 = .ok (.ireturn, 1) := by decide +kernel
theorem dX10_write_27 : decode cX10_write 27 = .ok (.aload_n 0, 1) := by decide +kernel
theorem dX10_write_28 : decode cX10_write 28 = .ok (.getfield 57, 3) := by decide +kernel
theorem dX10_write_31 : decode cX10_write 31 = .ok (.aload_n 0, 1) := by decide +kernel
theorem dX10_write_32 : decode cX10_write 32 = .ok (.getfield 160, 3) := by decide +kernel
theorem dX10_write_35 : decode cX10_write 35 = .ok (.iload_n 1, 1) := by decide +kernel
theorem dX10_write_36 : decode cX10_write 36 = .ok (.iastore, 1) := by decide +kernel
theorem dX10_write_37 : decode cX10_write 37 = .ok (.aload_n 0, 1) := by decide +kernel
theorem dX10_write_38 : decode cX10_write 38 = .ok (.dup, 1) := by decide +kernel
theorem dX10_write_39 : decode cX10_write 39 = .ok (.getfield 160, 3) := by decide +kernel
theorem dX10_write_42 : decode cX10_write 42 = .ok (.iconst 1, 1) := by decide +kernel
theorem dX10_write_43 : decode cX10_write 43 = .ok (.iadd, 1) := by decide +kernel
theorem dX10_write_44 : decode cX10_write 44 = .ok (.putfield 160, 3) := by decide +kernel
theorem dX10_write_47 : decode cX10_write 47 = .ok (.aload_n 0, 1) := by decide +kernel
theorem dX10_write_48 : decode cX10_write 48 = .ok (.getfield 160, 3) := by decide +kernel
theorem dX10_write_51 : decode cX10_write 51 = .ok (.ireturn, 1) := by decide +kernel
theorem dX10_judge_0 : decode cX10_judge 0 = .ok (.aload_n 0, 1) := by decide +kernel
theorem dX10_judge_1 : decode cX10_judge 1 = .ok (.invokevirtual 197, 3) := by decide +kernel
theorem dX10_judge_4 : decode cX10_judge 4 = .ok (.ifCond .ne 6, 3) := by decide +kernel
theorem dX10_judge_7 : decode cX10_judge 7 = .ok (.ldc 194, 2) := by decide +kernel
theorem dX10_judge_9 : decode cX10_judge 9 = .ok (.ireturn, 1) := by decide +kernel
theorem dX10_judge_10 : decode cX10_judge 10 = .ok (.aload_n 0, 1) := by decide +kernel
theorem dX10_judge_11 : decode cX10_judge 11 = .ok (.iconst 0, 1) := by decide +kernel
theorem dX10_judge_12 : decode cX10_judge 12 = .ok (.bipush 28, 2) := by decide +kernel
theorem dX10_judge_14 : decode cX10_judge 14 = .ok (.invokevirtual 191, 3) := by decide +kernel
theorem dX10_judge_17 : decode cX10_judge 17 = .ok (.iconst 0, 1) := by decide +kernel
theorem dX10_judge_18 : decode cX10_judge 18 = .ok (.istore_n 1, 1) := by decide +kernel
theorem dX10_judge_19 : decode cX10_judge 19 = .ok (.iload_n 1, 1) := by decide +kernel
theorem dX10_judge_20 : decode cX10_judge 20 = .ok (.aload_n 0, 1) := by decide +kernel
theorem dX10_judge_21 : decode cX10_judge 21 = .ok (.getfield 160, 3) := by decide +kernel
theorem dX10_judge_24 : decode cX10_judge 24 = .ok (.if_icmp .ge 35, 3) := by decide +kernel
theorem dX10_judge_27 : decode cX10_judge 27 = .ok (.aload_n 0, 1) := by decide +kernel
theorem dX10_judge_28 : decode cX10_judge 28 = .ok (.bipush 28, 2) := by decide +kernel
theorem dX10_judge_30 : decode cX10_judge 30 = .ok (.invokevirtual 166, 3) := by decide +kernel
theorem dX10_judge_33 : decode cX10_judge 33 = .ok (.ifCond .ne 18, 3) := by decide +kernel
theorem dX10_judge_36 : decode cX10_judge 36 = .ok (.aload_n 0, 1) := by decide +kernel
theorem dX10_judge_37 : decode cX10_judge 37 = .ok (.bipush 28, 2) := by decide +kernel
theorem dX10_judge_39 : decode cX10_judge 39 = .ok (.invokevirtual 204, 3) := by decide +kernel
theorem dX10_judge_42 : decode cX10_judge 42 = .ok (.aload_n 0, 1) := by decide +kernel
theorem dX10_judge_43 : decode cX10_judge 43 = .ok (.getfield 57, 3) := by decide +kernel
theorem dX10_judge_46 : decode cX10_judge 46 = .ok (.iload_n 1, 1) := by decide +kernel
theorem dX10_judge_47 : decode cX10_judge 47 = .ok (.iaload, 1) := by decide +kernel
theorem dX10_judge_48 : decode cX10_judge 48 = .ok (.if_icmp .eq 5, 3) := by decide +kernel
theorem dX10_judge_51 : decode cX10_judge 51 = .ok (.iload_n 1, 1) := by decide +kernel
theorem dX10_judge_52 : decode cX10_judge 52 = .ok (.ireturn, 1) := by decide +kernel
theorem dX10_judge_53 : decode cX10_judge 53 = .ok (.iinc 1 1, 3) := by decide +kernel
theorem dX10_judge_56 : decode cX10_judge 56 = .ok (.goto (-37), 3) := by decide +kernel
theorem dX10_judge_59 : decode cX10_judge 59 = .ok (.iconst (-1), 1) := by decide +kernel
theorem dX10_judge_60 : decode cX10_judge 60 = .ok (.ireturn, 1) := by decide +kernel
theorem dX10_tear_0 : decode cX10_tear 0 = .ok (.aload_n 0, 1) := by decide +kernel
theorem dX10_tear_1 : decode cX10_tear 1 = .ok (.getfield 157, 3) := by decide +kernel
theorem dX10_tear_4 : decode cX10_tear 4 = .ok (.aload_n 0, 1) := by decide +kernel
theorem dX10_tear_5 : decode cX10_tear 5 = .ok (.getfield 160, 3) := by decide +kernel
theorem dX10_tear_8 : decode cX10_tear 8 = .ok (.iadd, 1) := by decide +kernel
theorem dX10_tear_9 : decode cX10_tear 9 = .ok (.istore_n 1, 1) := by decide +kernel
theorem dX10_tear_10 : decode cX10_tear 10 = .ok (.aload_n 0, 1) := by decide +kernel
theorem dX10_tear_11 : decode cX10_tear 11 = .ok (.iconst 0, 1) := by decide +kernel
theorem dX10_tear_12 : decode cX10_tear 12 = .ok (.putfield 157, 3) := by decide +kernel
theorem dX10_tear_15 : decode cX10_tear 15 = .ok (.aload_n 0, 1) := by decide +kernel
theorem dX10_tear_16 : decode cX10_tear 16 = .ok (.iconst 0, 1) := by decide +kernel
theorem dX10_tear_17 : decode cX10_tear 17 = .ok (.putfield 160, 3) := by decide +kernel
theorem dX10_tear_20 : decode cX10_tear 20 = .ok (.iload_n 1, 1) := by decide +kernel
theorem dX10_tear_21 : decode cX10_tear 21 = .ok (.ireturn, 1) := by decide +kernel
theorem dX10_seed_0 : decode cX10_seed 0 = .ok (.iload_n 1, 1) := by decide +kernel
theorem dX10_seed_1 : decode cX10_seed 1 = .ok (.ifCond .ge 6, 3) := by decide +kernel
theorem dX10_seed_4 : decode cX10_seed 4 = .ok (.ldc 72, 2) := by decide +kernel
theorem dX10_seed_6 : decode cX10_seed 6 = .ok (.ireturn, 1) := by decide +kernel
theorem dX10_seed_7 : decode cX10_seed 7 = .ok (.aload_n 0, 1) := by decide +kernel
theorem dX10_seed_8 : decode cX10_seed 8 = .ok (.getfield 7, 3) := by decide +kernel
theorem dX10_seed_11 : decode cX10_seed 11 = .ok (.bipush 25, 2) := by decide +kernel
theorem dX10_seed_13 : decode cX10_seed 13 = .ok (.iaload, 1) := by decide +kernel
theorem dX10_seed_14 : decode cX10_seed 14 = .ok (.istore_n 2, 1) := by decide +kernel
theorem dX10_seed_15 : decode cX10_seed 15 = .ok (.aload_n 0, 1) := by decide +kernel
theorem dX10_seed_16 : decode cX10_seed 16 = .ok (.getfield 7, 3) := by decide +kernel
theorem dX10_seed_19 : decode cX10_seed 19 = .ok (.bipush 25, 2) := by decide +kernel
theorem dX10_seed_21 : decode cX10_seed 21 = .ok (.iload_n 1, 1) := by decide +kernel
theorem dX10_seed_22 : decode cX10_seed 22 = .ok (.iastore, 1) := by decide +kernel
theorem dX10_seed_23 : decode cX10_seed 23 = .ok (.iload_n 2, 1) := by decide +kernel
theorem dX10_seed_24 : decode cX10_seed 24 = .ok (.ireturn, 1) := by decide +kernel
theorem dX10_keep_0 : decode cX10_keep 0 = .ok (.iload_n 1, 1) := by decide +kernel
theorem dX10_keep_1 : decode cX10_keep 1 = .ok (.i2l, 1) := by decide +kernel
theorem dX10_keep_2 : decode cX10_keep 2 = .ok (.lconst 0, 1) := by decide +kernel
theorem dX10_keep_3 : decode cX10_keep 3 = .ok (.lconst 1, 1) := by decide +kernel
theorem dX10_keep_4 : decode cX10_keep 4 = .ok (.invokestatic 68, 3) := by decide +kernel
theorem dX10_keep_7 : decode cX10_keep 7 = .ok (.ifCond .ne 6, 3) := by decide +kernel
theorem dX10_keep_10 : decode cX10_keep 10 = .ok (.ldc 174, 2) := by decide +kernel
theorem dX10_keep_12 : decode cX10_keep 12 = .ok (.ireturn, 1) := by decide +kernel
theorem dX10_keep_13 : decode cX10_keep 13 = .ok (.aload_n 0, 1) := by decide +kernel
theorem dX10_keep_14 : decode cX10_keep 14 = .ok (.iconst 0, 1) := by decide +kernel
theorem dX10_keep_15 : decode cX10_keep 15 = .ok (.bipush 56, 2) := by decide +kernel
theorem dX10_keep_17 : decode cX10_keep 17 = .ok (.bipush 28, 2) := by decide +kernel
theorem dX10_keep_19 : decode cX10_keep 19 = .ok (.iload_n 1, 1) := by decide +kernel
theorem dX10_keep_20 : decode cX10_keep 20 = .ok (.imul, 1) := by decide +kernel
theorem dX10_keep_21 : decode cX10_keep 21 = .ok (.iadd, 1) := by decide +kernel
theorem dX10_keep_22 : decode cX10_keep 22 = .ok (.invokevirtual 191, 3) := by decide +kernel
theorem dX10_keep_25 : decode cX10_keep 25 = .ok (.aload_n 0, 1) := by decide +kernel
theorem dX10_keep_26 : decode cX10_keep 26 = .ok (.getfield 13, 3) := by decide +kernel
theorem dX10_keep_29 : decode cX10_keep 29 = .ok (.iload_n 1, 1) := by decide +kernel
theorem dX10_keep_30 : decode cX10_keep 30 = .ok (.iconst 1, 1) := by decide +kernel
theorem dX10_keep_31 : decode cX10_keep 31 = .ok (.bastore, 1) := by decide +kernel
theorem dX10_keep_32 : decode cX10_keep 32 = .ok (.aload_n 0, 1) := by decide +kernel
theorem dX10_keep_33 : decode cX10_keep 33 = .ok (.iconst 0, 1) := by decide +kernel
theorem dX10_keep_34 : decode cX10_keep 34 = .ok (.putfield 163, 3) := by decide +kernel
theorem dX10_keep_37 : decode cX10_keep 37 = .ok (.iconst 1, 1) := by decide +kernel
theorem dX10_keep_38 : decode cX10_keep 38 = .ok (.ireturn, 1) := by decide +kernel
theorem dX10_goBack_0 : decode cX10_goBack 0 = .ok (.iload_n 1, 1) := by decide +kernel
theorem dX10_goBack_1 : decode cX10_goBack 1 = .ok (.i2l, 1) := by decide +kernel
theorem dX10_goBack_2 : decode cX10_goBack 2 = .ok (.lconst 0, 1) := by decide +kernel
theorem dX10_goBack_3 : decode cX10_goBack 3 = .ok (.lconst 1, 1) := by decide +kernel
theorem dX10_goBack_4 : decode cX10_goBack 4 = .ok (.invokestatic 68, 3) := by decide +kernel
theorem dX10_goBack_7 : decode cX10_goBack 7 = .ok (.ifCond .ne 6, 3) := by decide +kernel
theorem dX10_goBack_10 : decode cX10_goBack 10 = .ok (.ldc 174, 2) := by decide +kernel
theorem dX10_goBack_12 : decode cX10_goBack 12 = .ok (.ireturn, 1) := by decide +kernel
theorem dX10_goBack_13 : decode cX10_goBack 13 = .ok (.aload_n 0, 1) := by decide +kernel
theorem dX10_goBack_14 : decode cX10_goBack 14 = .ok (.getfield 13, 3) := by decide +kernel
theorem dX10_goBack_17 : decode cX10_goBack 17 = .ok (.iload_n 1, 1) := by decide +kernel
theorem dX10_goBack_18 : decode cX10_goBack 18 = .ok (.baload, 1) := by decide +kernel
theorem dX10_goBack_19 : decode cX10_goBack 19 = .ok (.ifCond .ne 6, 3) := by decide +kernel
theorem dX10_goBack_22 : decode cX10_goBack 22 = .ok (.ldc 194, 2) := by decide +kernel
theorem dX10_goBack_24 : decode cX10_goBack 24 = .ok (.ireturn, 1) := by decide +kernel
theorem dX10_goBack_25 : decode cX10_goBack 25 = .ok (.aload_n 0, 1) := by decide +kernel
theorem dX10_goBack_26 : decode cX10_goBack 26 = .ok (.bipush 56, 2) := by decide +kernel
theorem dX10_goBack_28 : decode cX10_goBack 28 = .ok (.bipush 28, 2) := by decide +kernel
theorem dX10_goBack_30 : decode cX10_goBack 30 = .ok (.iload_n 1, 1) := by decide +kernel
theorem dX10_goBack_31 : decode cX10_goBack 31 = .ok (.imul, 1) := by decide +kernel
theorem dX10_goBack_32 : decode cX10_goBack 32 = .ok (.iadd, 1) := by decide +kernel
theorem dX10_goBack_33 : decode cX10_goBack 33 = .ok (.iconst 0, 1) := by decide +kernel
theorem dX10_goBack_34 : decode cX10_goBack 34 = .ok (.invokevirtual 191, 3) := by decide +kernel
theorem dX10_goBack_37 : decode cX10_goBack 37 = .ok (.aload_n 0, 1) := by decide +kernel
theorem dX10_goBack_38 : decode cX10_goBack 38 = .ok (.iconst 0, 1) := by decide +kernel
theorem dX10_goBack_39 : decode cX10_goBack 39 = .ok (.putfield 163, 3) := by decide +kernel
theorem dX10_goBack_42 : decode cX10_goBack 42 = .ok (.iconst 1, 1) := by decide +kernel
theorem dX10_goBack_43 : decode cX10_goBack 43 = .ok (.ireturn, 1) := by decide +kernel
theorem dJ6_bitCount_0f7a4_0 : decode cJ6_bitCount_0f7a4 0 = .ok (.iload_n 0, 1) := by decide +kernel
theorem dJ6_bitCount_0f7a4_1 : decode cJ6_bitCount_0f7a4 1 = .ok (.iload_n 0, 1) := by decide +kernel
theorem dJ6_bitCount_0f7a4_2 : decode cJ6_bitCount_0f7a4 2 = .ok (.iconst 1, 1) := by decide +kernel
theorem dJ6_bitCount_0f7a4_3 : decode cJ6_bitCount_0f7a4 3 = .ok (.iushr, 1) := by decide +kernel
theorem dJ6_bitCount_0f7a4_4 : decode cJ6_bitCount_0f7a4 4 = .ok (.ldc_w 265, 3) := by decide +kernel
theorem dJ6_bitCount_0f7a4_7 : decode cJ6_bitCount_0f7a4 7 = .ok (.iand, 1) := by decide +kernel
theorem dJ6_bitCount_0f7a4_8 : decode cJ6_bitCount_0f7a4 8 = .ok (.isub, 1) := by decide +kernel
theorem dJ6_bitCount_0f7a4_9 : decode cJ6_bitCount_0f7a4 9 = .ok (.istore_n 0, 1) := by decide +kernel
theorem dJ6_bitCount_0f7a4_10 : decode cJ6_bitCount_0f7a4 10 = .ok (.iload_n 0, 1) := by decide +kernel
theorem dJ6_bitCount_0f7a4_11 : decode cJ6_bitCount_0f7a4 11 = .ok (.ldc_w 266, 3) := by decide +kernel
theorem dJ6_bitCount_0f7a4_14 : decode cJ6_bitCount_0f7a4 14 = .ok (.iand, 1) := by decide +kernel
theorem dJ6_bitCount_0f7a4_15 : decode cJ6_bitCount_0f7a4 15 = .ok (.iload_n 0, 1) := by decide +kernel
theorem dJ6_bitCount_0f7a4_16 : decode cJ6_bitCount_0f7a4 16 = .ok (.iconst 2, 1) := by decide +kernel
theorem dJ6_bitCount_0f7a4_17 : decode cJ6_bitCount_0f7a4 17 = .ok (.iushr, 1) := by decide +kernel
theorem dJ6_bitCount_0f7a4_18 : decode cJ6_bitCount_0f7a4 18 = .ok (.ldc_w 266, 3) := by decide +kernel
theorem dJ6_bitCount_0f7a4_21 : decode cJ6_bitCount_0f7a4 21 = .ok (.iand, 1) := by decide +kernel
theorem dJ6_bitCount_0f7a4_22 : decode cJ6_bitCount_0f7a4 22 = .ok (.iadd, 1) := by decide +kernel
theorem dJ6_bitCount_0f7a4_23 : decode cJ6_bitCount_0f7a4 23 = .ok (.istore_n 0, 1) := by decide +kernel
theorem dJ6_bitCount_0f7a4_24 : decode cJ6_bitCount_0f7a4 24 = .ok (.iload_n 0, 1) := by decide +kernel
theorem dJ6_bitCount_0f7a4_25 : decode cJ6_bitCount_0f7a4 25 = .ok (.iload_n 0, 1) := by decide +kernel
theorem dJ6_bitCount_0f7a4_26 : decode cJ6_bitCount_0f7a4 26 = .ok (.iconst 4, 1) := by decide +kernel
theorem dJ6_bitCount_0f7a4_27 : decode cJ6_bitCount_0f7a4 27 = .ok (.iushr, 1) := by decide +kernel
theorem dJ6_bitCount_0f7a4_28 : decode cJ6_bitCount_0f7a4 28 = .ok (.iadd, 1) := by decide +kernel
theorem dJ6_bitCount_0f7a4_29 : decode cJ6_bitCount_0f7a4 29 = .ok (.ldc_w 267, 3) := by decide +kernel
theorem dJ6_bitCount_0f7a4_32 : decode cJ6_bitCount_0f7a4 32 = .ok (.iand, 1) := by decide +kernel
theorem dJ6_bitCount_0f7a4_33 : decode cJ6_bitCount_0f7a4 33 = .ok (.istore_n 0, 1) := by decide +kernel
theorem dJ6_bitCount_0f7a4_34 : decode cJ6_bitCount_0f7a4 34 = .ok (.iload_n 0, 1) := by decide +kernel
theorem dJ6_bitCount_0f7a4_35 : decode cJ6_bitCount_0f7a4 35 = .ok (.iload_n 0, 1) := by decide +kernel
theorem dJ6_bitCount_0f7a4_36 : decode cJ6_bitCount_0f7a4 36 = .ok (.bipush 8, 2) := by decide +kernel
theorem dJ6_bitCount_0f7a4_38 : decode cJ6_bitCount_0f7a4 38 = .ok (.iushr, 1) := by decide +kernel
theorem dJ6_bitCount_0f7a4_39 : decode cJ6_bitCount_0f7a4 39 = .ok (.iadd, 1) := by decide +kernel
theorem dJ6_bitCount_0f7a4_40 : decode cJ6_bitCount_0f7a4 40 = .ok (.istore_n 0, 1) := by decide +kernel
theorem dJ6_bitCount_0f7a4_41 : decode cJ6_bitCount_0f7a4 41 = .ok (.iload_n 0, 1) := by decide +kernel
theorem dJ6_bitCount_0f7a4_42 : decode cJ6_bitCount_0f7a4 42 = .ok (.iload_n 0, 1) := by decide +kernel
theorem dJ6_bitCount_0f7a4_43 : decode cJ6_bitCount_0f7a4 43 = .ok (.bipush 16, 2) := by decide +kernel
theorem dJ6_bitCount_0f7a4_45 : decode cJ6_bitCount_0f7a4 45 = .ok (.iushr, 1) := by decide +kernel
theorem dJ6_bitCount_0f7a4_46 : decode cJ6_bitCount_0f7a4 46 = .ok (.iadd, 1) := by decide +kernel
theorem dJ6_bitCount_0f7a4_47 : decode cJ6_bitCount_0f7a4 47 = .ok (.istore_n 0, 1) := by decide +kernel
theorem dJ6_bitCount_0f7a4_48 : decode cJ6_bitCount_0f7a4 48 = .ok (.iload_n 0, 1) := by decide +kernel
theorem dJ6_bitCount_0f7a4_49 : decode cJ6_bitCount_0f7a4 49 = .ok (.bipush 63, 2) := by decide +kernel
theorem dJ6_bitCount_0f7a4_51 : decode cJ6_bitCount_0f7a4 51 = .ok (.iand, 1) := by decide +kernel
theorem dJ6_bitCount_0f7a4_52 : decode cJ6_bitCount_0f7a4 52 = .ok (.ireturn, 1) := by decide +kernel
theorem dJ9_abs_0f7a4_0 : decode cJ9_abs_0f7a4 0 = .ok (.iload_n 0, 1) := by decide +kernel
theorem dJ9_abs_0f7a4_1 : decode cJ9_abs_0f7a4 1 = .ok (.ifCond .ge 8, 3) := by decide +kernel
theorem dJ9_abs_0f7a4_4 : decode cJ9_abs_0f7a4 4 = .ok (.iload_n 0, 1) := by decide +kernel
theorem dJ9_abs_0f7a4_5 : decode cJ9_abs_0f7a4 5 = .ok (.ineg, 1) := by decide +kernel
theorem dJ9_abs_0f7a4_6 : decode cJ9_abs_0f7a4 6 = .ok (.goto 4, 3) := by decide +kernel
theorem dJ9_abs_0f7a4_9 : decode cJ9_abs_0f7a4 9 = .ok (.iload_n 0, 1) := by decide +kernel
theorem dJ9_abs_0f7a4_10 : decode cJ9_abs_0f7a4 10 = .ok (.ireturn, 1) := by decide +kernel
theorem dJ9_max_7cf53_0 : decode cJ9_max_7cf53 0 = .ok (.iload_n 0, 1) := by decide +kernel
theorem dJ9_max_7cf53_1 : decode cJ9_max_7cf53 1 = .ok (.iload_n 1, 1) := by decide +kernel
theorem dJ9_max_7cf53_2 : decode cJ9_max_7cf53 2 = .ok (.if_icmp .lt 7, 3) := by decide +kernel
theorem dJ9_max_7cf53_5 : decode cJ9_max_7cf53 5 = .ok (.iload_n 0, 1) := by decide +kernel
theorem dJ9_max_7cf53_6 : decode cJ9_max_7cf53 6 = .ok (.goto 4, 3) := by decide +kernel
theorem dJ9_max_7cf53_9 : decode cJ9_max_7cf53 9 = .ok (.iload_n 1, 1) := by decide +kernel
theorem dJ9_max_7cf53_10 : decode cJ9_max_7cf53 10 = .ok (.ireturn, 1) := by decide +kernel
theorem dJ9_min_7cf53_0 : decode cJ9_min_7cf53 0 = .ok (.iload_n 0, 1) := by decide +kernel
theorem dJ9_min_7cf53_1 : decode cJ9_min_7cf53 1 = .ok (.iload_n 1, 1) := by decide +kernel
theorem dJ9_min_7cf53_2 : decode cJ9_min_7cf53 2 = .ok (.if_icmp .gt 7, 3) := by decide +kernel
theorem dJ9_min_7cf53_5 : decode cJ9_min_7cf53 5 = .ok (.iload_n 0, 1) := by decide +kernel
theorem dJ9_min_7cf53_6 : decode cJ9_min_7cf53 6 = .ok (.goto 4, 3) := by decide +kernel
theorem dJ9_min_7cf53_9 : decode cJ9_min_7cf53 9 = .ok (.iload_n 1, 1) := by decide +kernel
theorem dJ9_min_7cf53_10 : decode cJ9_min_7cf53 10 = .ok (.ireturn, 1) := by decide +kernel
theorem dL_law_0 : decode cL_law 0 = .ok (.new 7, 3) := by decide +kernel
theorem dL_law_3 : decode cL_law 3 = .ok (.dup, 1) := by decide +kernel
theorem dL_law_4 : decode cL_law 4 = .ok (.invokespecial 9, 3) := by decide +kernel
theorem dL_law_7 : decode cL_law 7 = .ok (.astore_n 1, 1) := by decide +kernel
theorem dL_law_8 : decode cL_law 8 = .ok (.new 10, 3) := by decide +kernel
theorem dL_law_11 : decode cL_law 11 = .ok (.dup, 1) := by decide +kernel
theorem dL_law_12 : decode cL_law 12 = .ok (.invokespecial 12, 3) := by decide +kernel
theorem dL_law_15 : decode cL_law 15 = .ok (.astore_n 2, 1) := by decide +kernel
theorem dL_law_16 : decode cL_law 16 = .ok (.iconst 0, 1) := by decide +kernel
theorem dL_law_17 : decode cL_law 17 = .ok (.istore_n 3, 1) := by decide +kernel
theorem dL_law_18 : decode cL_law 18 = .ok (.iload_n 3, 1) := by decide +kernel
theorem dL_law_19 : decode cL_law 19 = .ok (.aload_n 0, 1) := by decide +kernel
theorem dL_law_20 : decode cL_law 20 = .ok (.arraylength, 1) := by decide +kernel
theorem dL_law_21 : decode cL_law 21 = .ok (.iconst 4, 1) := by decide +kernel
theorem dL_law_22 : decode cL_law 22 = .ok (.isub, 1) := by decide +kernel
theorem dL_law_23 : decode cL_law 23 = .ok (.if_icmp .gt 996, 3) := by decide +kernel
theorem dL_law_26 : decode cL_law 26 = .ok (.aload_n 0, 1) := by decide +kernel
theorem dL_law_27 : decode cL_law 27 = .ok (.iload_n 3, 1) := by decide +kernel
theorem dL_law_28 : decode cL_law 28 = .ok (.iaload, 1) := by decide +kernel
theorem dL_law_29 : decode cL_law 29 = .ok (.bipush 63, 2) := by decide +kernel
theorem dL_law_31 : decode cL_law 31 = .ok (.iand, 1) := by decide +kernel
theorem dL_law_32 : decode cL_law 32 = .ok (.tableswitch 981 0 34 #[156, 179, 192, 205, 228, 251, 284, 317, 340, 363, 376, 389, 402, 415, 448, 481, 504, 527, 540, 573, 616, 649, 672, 715, 738, 771, 784, 807, 840, 863, 886, 899, 912, 935, 958], 156) := by decide +kernel
theorem dL_law_188 : decode cL_law 188 = .ok (.aload_n 1, 1) := by decide +kernel
theorem dL_law_189 : decode cL_law 189 = .ok (.aload_n 0, 1) := by decide +kernel
theorem dL_law_190 : decode cL_law 190 = .ok (.iload_n 3, 1) := by decide +kernel
theorem dL_law_191 : decode cL_law 191 = .ok (.iconst 1, 1) := by decide +kernel
theorem dL_law_192 : decode cL_law 192 = .ok (.iadd, 1) := by decide +kernel
theorem dL_law_193 : decode cL_law 193 = .ok (.iaload, 1) := by decide +kernel
theorem dL_law_194 : decode cL_law 194 = .ok (.invokevirtual 13, 3) := by decide +kernel
theorem dL_law_197 : decode cL_law 197 = .ok (.aload_n 2, 1) := by decide +kernel
theorem dL_law_198 : decode cL_law 198 = .ok (.aload_n 0, 1) := by decide +kernel
theorem dL_law_199 : decode cL_law 199 = .ok (.iload_n 3, 1) := by decide +kernel
theorem dL_law_200 : decode cL_law 200 = .ok (.iconst 1, 1) := by decide +kernel
theorem dL_law_201 : decode cL_law 201 = .ok (.iadd, 1) := by decide +kernel
theorem dL_law_202 : decode cL_law 202 = .ok (.iaload, 1) := by decide +kernel
theorem dL_law_203 : decode cL_law 203 = .ok (.invokevirtual 17, 3) := by decide +kernel
theorem dL_law_206 : decode cL_law 206 = .ok (.if_icmp .eq 807, 3) := by decide +kernel
theorem dL_law_209 : decode cL_law 209 = .ok (.iconst 0, 1) := by decide +kernel
theorem dL_law_210 : decode cL_law 210 = .ok (.ireturn, 1) := by decide +kernel
theorem dL_law_211 : decode cL_law 211 = .ok (.aload_n 1, 1) := by decide +kernel
theorem dL_law_212 : decode cL_law 212 = .ok (.invokevirtual 18, 3) := by decide +kernel
theorem dL_law_215 : decode cL_law 215 = .ok (.aload_n 2, 1) := by decide +kernel
theorem dL_law_216 : decode cL_law 216 = .ok (.invokevirtual 22, 3) := by decide +kernel
theorem dL_law_219 : decode cL_law 219 = .ok (.if_icmp .eq 794, 3) := by decide +kernel
theorem dL_law_222 : decode cL_law 222 = .ok (.iconst 0, 1) := by decide +kernel
theorem dL_law_223 : decode cL_law 223 = .ok (.ireturn, 1) := by decide +kernel
theorem dL_law_224 : decode cL_law 224 = .ok (.aload_n 1, 1) := by decide +kernel
theorem dL_law_225 : decode cL_law 225 = .ok (.invokevirtual 23, 3) := by decide +kernel
theorem dL_law_228 : decode cL_law 228 = .ok (.aload_n 2, 1) := by decide +kernel
theorem dL_law_229 : decode cL_law 229 = .ok (.invokevirtual 26, 3) := by decide +kernel
theorem dL_law_232 : decode cL_law 232 = .ok (.if_icmp .eq 781, 3) := by decide +kernel
theorem dL_law_235 : decode cL_law 235 = .ok (.iconst 0, 1) := by decide +kernel
theorem dL_law_236 : decode cL_law 236 = .ok (.ireturn, 1) := by decide +kernel
theorem dL_law_237 : decode cL_law 237 = .ok (.aload_n 1, 1) := by decide +kernel
theorem dL_law_238 : decode cL_law 238 = .ok (.aload_n 0, 1) := by decide +kernel
theorem dL_law_239 : decode cL_law 239 = .ok (.iload_n 3, 1) := by decide +kernel
theorem dL_law_240 : decode cL_law 240 = .ok (.iconst 1, 1) := by decide +kernel
theorem dL_law_241 : decode cL_law 241 = .ok (.iadd, 1) := by decide +kernel
theorem dL_law_242 : decode cL_law 242 = .ok (.iaload, 1) := by decide +kernel
theorem dL_law_243 : decode cL_law 243 = .ok (.invokevirtual 27, 3) := by decide +kernel
theorem dL_law_246 : decode cL_law 246 = .ok (.aload_n 2, 1) := by decide +kernel
theorem dL_law_247 : decode cL_law 247 = .ok (.aload_n 0, 1) := by decide +kernel
theorem dL_law_248 : decode cL_law 248 = .ok (.iload_n 3, 1) := by decide +kernel
theorem dL_law_249 : decode cL_law 249 = .ok (.iconst 1, 1) := by decide +kernel
theorem dL_law_250 : decode cL_law 250 = .ok (.iadd, 1) := by decide +kernel
theorem dL_law_251 : decode cL_law 251 = .ok (.iaload, 1) := by decide +kernel
theorem dL_law_252 : decode cL_law 252 = .ok (.invokevirtual 30, 3) := by decide +kernel
theorem dL_law_255 : decode cL_law 255 = .ok (.if_icmp .eq 758, 3) := by decide +kernel
theorem dL_law_258 : decode cL_law 258 = .ok (.iconst 0, 1) := by decide +kernel
theorem dL_law_259 : decode cL_law 259 = .ok (.ireturn, 1) := by decide +kernel
theorem dL_law_260 : decode cL_law 260 = .ok (.aload_n 1, 1) := by decide +kernel
theorem dL_law_261 : decode cL_law 261 = .ok (.aload_n 0, 1) := by decide +kernel
theorem dL_law_262 : decode cL_law 262 = .ok (.iload_n 3, 1) := by decide +kernel
theorem dL_law_263 : decode cL_law 263 = .ok (.iconst 1, 1) := by decide +kernel
theorem dL_law_264 : decode cL_law 264 = .ok (.iadd, 1) := by decide +kernel
theorem dL_law_265 : decode cL_law 265 = .ok (.iaload, 1) := by decide +kernel
theorem dL_law_266 : decode cL_law 266 = .ok (.invokevirtual 31, 3) := by decide +kernel
theorem dL_law_269 : decode cL_law 269 = .ok (.aload_n 2, 1) := by decide +kernel
theorem dL_law_270 : decode cL_law 270 = .ok (.aload_n 0, 1) := by decide +kernel
theorem dL_law_271 : decode cL_law 271 = .ok (.iload_n 3, 1) := by decide +kernel
theorem dL_law_272 : decode cL_law 272 = .ok (.iconst 1, 1) := by decide +kernel
theorem dL_law_273 : decode cL_law 273 = .ok (.iadd, 1) := by decide +kernel
theorem dL_law_274 : decode cL_law 274 = .ok (.iaload, 1) := by decide +kernel
theorem dL_law_275 : decode cL_law 275 = .ok (.invokevirtual 34, 3) := by decide +kernel
theorem dL_law_278 : decode cL_law 278 = .ok (.if_icmp .eq 735, 3) := by decide +kernel
theorem dL_law_281 : decode cL_law 281 = .ok (.iconst 0, 1) := by decide +kernel
theorem dL_law_282 : decode cL_law 282 = .ok (.ireturn, 1) := by decide +kernel
theorem dL_law_283 : decode cL_law 283 = .ok (.aload_n 1, 1) := by decide +kernel
theorem dL_law_284 : decode cL_law 284 = .ok (.aload_n 0, 1) := by decide +kernel
theorem dL_law_285 : decode cL_law 285 = .ok (.iload_n 3, 1) := by decide +kernel
theorem dL_law_286 : decode cL_law 286 = .ok (.iconst 1, 1) := by decide +kernel
theorem dL_law_287 : decode cL_law 287 = .ok (.iadd, 1) := by decide +kernel
theorem dL_law_288 : decode cL_law 288 = .ok (.iaload, 1) := by decide +kernel
theorem dL_law_289 : decode cL_law 289 = .ok (.aload_n 0, 1) := by decide +kernel
theorem dL_law_290 : decode cL_law 290 = .ok (.iload_n 3, 1) := by decide +kernel
theorem dL_law_291 : decode cL_law 291 = .ok (.iconst 2, 1) := by decide +kernel
theorem dL_law_292 : decode cL_law 292 = .ok (.iadd, 1) := by decide +kernel
theorem dL_law_293 : decode cL_law 293 = .ok (.iaload, 1) := by decide +kernel
theorem dL_law_294 : decode cL_law 294 = .ok (.invokevirtual 35, 3) := by decide +kernel
theorem dL_law_297 : decode cL_law 297 = .ok (.aload_n 2, 1) := by decide +kernel
theorem dL_law_298 : decode cL_law 298 = .ok (.aload_n 0, 1) := by decide +kernel
theorem dL_law_299 : decode cL_law 299 = .ok (.iload_n 3, 1) := by decide +kernel
theorem dL_law_300 : decode cL_law 300 = .ok (.iconst 1, 1) := by decide +kernel
theorem dL_law_301 : decode cL_law 301 = .ok (.iadd, 1) := by decide +kernel
theorem dL_law_302 : decode cL_law 302 = .ok (.iaload, 1) := by decide +kernel
theorem dL_law_303 : decode cL_law 303 = .ok (.aload_n 0, 1) := by decide +kernel
theorem dL_law_304 : decode cL_law 304 = .ok (.iload_n 3, 1) := by decide +kernel
theorem dL_law_305 : decode cL_law 305 = .ok (.iconst 2, 1) := by decide +kernel
theorem dL_law_306 : decode cL_law 306 = .ok (.iadd, 1) := by decide +kernel
theorem dL_law_307 : decode cL_law 307 = .ok (.iaload, 1) := by decide +kernel
theorem dL_law_308 : decode cL_law 308 = .ok (.invokevirtual 39, 3) := by decide +kernel
theorem dL_law_311 : decode cL_law 311 = .ok (.if_icmp .eq 702, 3) := by decide +kernel
theorem dL_law_314 : decode cL_law 314 = .ok (.iconst 0, 1) := by decide +kernel
theorem dL_law_315 : decode cL_law 315 = .ok (.ireturn, 1) := by decide +kernel
theorem dL_law_316 : decode cL_law 316 = .ok (.aload_n 1, 1) := by decide +kernel
theorem dL_law_317 : decode cL_law 317 = .ok (.aload_n 0, 1) := by decide +kernel
theorem dL_law_318 : decode cL_law 318 = .ok (.iload_n 3, 1) := by decide +kernel
theorem dL_law_319 : decode cL_law 319 = .ok (.iconst 1, 1) := by decide +kernel
theorem dL_law_320 : decode cL_law 320 = .ok (.iadd, 1) := by decide +kernel
theorem dL_law_321 : decode cL_law 321 = .ok (.iaload, 1) := by decide +kernel
theorem dL_law_322 : decode cL_law 322 = .ok (.aload_n 0, 1) := by decide +kernel
theorem dL_law_323 : decode cL_law 323 = .ok (.iload_n 3, 1) := by decide +kernel
theorem dL_law_324 : decode cL_law 324 = .ok (.iconst 2, 1) := by decide +kernel
theorem dL_law_325 : decode cL_law 325 = .ok (.iadd, 1) := by decide +kernel
theorem dL_law_326 : decode cL_law 326 = .ok (.iaload, 1) := by decide +kernel
theorem dL_law_327 : decode cL_law 327 = .ok (.invokevirtual 40, 3) := by decide +kernel
theorem dL_law_330 : decode cL_law 330 = .ok (.aload_n 2, 1) := by decide +kernel
theorem dL_law_331 : decode cL_law 331 = .ok (.aload_n 0, 1) := by decide +kernel
theorem dL_law_332 : decode cL_law 332 = .ok (.iload_n 3, 1) := by decide +kernel
theorem dL_law_333 : decode cL_law 333 = .ok (.iconst 1, 1) := by decide +kernel
theorem dL_law_334 : decode cL_law 334 = .ok (.iadd, 1) := by decide +kernel
theorem dL_law_335 : decode cL_law 335 = .ok (.iaload, 1) := by decide +kernel
theorem dL_law_336 : decode cL_law 336 = .ok (.aload_n 0, 1) := by decide +kernel
theorem dL_law_337 : decode cL_law 337 = .ok (.iload_n 3, 1) := by decide +kernel
theorem dL_law_338 : decode cL_law 338 = .ok (.iconst 2, 1) := by decide +kernel
theorem dL_law_339 : decode cL_law 339 = .ok (.iadd, 1) := by decide +kernel
theorem dL_law_340 : decode cL_law 340 = .ok (.iaload, 1) := by decide +kernel
theorem dL_law_341 : decode cL_law 341 = .ok (.invokevirtual 43, 3) := by decide +kernel
theorem dL_law_344 : decode cL_law 344 = .ok (.if_icmp .eq 669, 3) := by decide +kernel
theorem dL_law_347 : decode cL_law 347 = .ok (.iconst 0, 1) := by decide +kernel
theorem dL_law_348 : decode cL_law 348 = .ok (.ireturn, 1) := by decide +kernel
theorem dL_law_349 : decode cL_law 349 = .ok (.aload_n 1, 1) := by decide +kernel
theorem dL_law_350 : decode cL_law 350 = .ok (.aload_n 0, 1) := by decide +kernel
theorem dL_law_351 : decode cL_law 351 = .ok (.iload_n 3, 1) := by decide +kernel
theorem dL_law_352 : decode cL_law 352 = .ok (.iconst 1, 1) := by decide +kernel
theorem dL_law_353 : decode cL_law 353 = .ok (.iadd, 1) := by decide +kernel
theorem dL_law_354 : decode cL_law 354 = .ok (.iaload, 1) := by decide +kernel
theorem dL_law_355 : decode cL_law 355 = .ok (.invokevirtual 44, 3) := by decide +kernel
theorem dL_law_358 : decode cL_law 358 = .ok (.aload_n 2, 1) := by decide +kernel
theorem dL_law_359 : decode cL_law 359 = .ok (.aload_n 0, 1) := by decide +kernel
theorem dL_law_360 : decode cL_law 360 = .ok (.iload_n 3, 1) := by decide +kernel
theorem dL_law_361 : decode cL_law 361 = .ok (.iconst 1, 1) := by decide +kernel
theorem dL_law_362 : decode cL_law 362 = .ok (.iadd, 1) := by decide +kernel
theorem dL_law_363 : decode cL_law 363 = .ok (.iaload, 1) := by decide +kernel
theorem dL_law_364 : decode cL_law 364 = .ok (.invokevirtual 47, 3) := by decide +kernel
theorem dL_law_367 : decode cL_law 367 = .ok (.if_icmp .eq 646, 3) := by decide +kernel
theorem dL_law_370 : decode cL_law 370 = .ok (.iconst 0, 1) := by decide +kernel
theorem dL_law_371 : decode cL_law 371 = .ok (.ireturn, 1) := by decide +kernel
theorem dL_law_372 : decode cL_law 372 = .ok (.aload_n 1, 1) := by decide +kernel
theorem dL_law_373 : decode cL_law 373 = .ok (.aload_n 0, 1) := by decide +kernel
theorem dL_law_374 : decode cL_law 374 = .ok (.iload_n 3, 1) := by decide +kernel
theorem dL_law_375 : decode cL_law 375 = .ok (.iconst 1, 1) := by decide +kernel
theorem dL_law_376 : decode cL_law 376 = .ok (.iadd, 1) := by decide +kernel
theorem dL_law_377 : decode cL_law 377 = .ok (.iaload, 1) := by decide +kernel
theorem dL_law_378 : decode cL_law 378 = .ok (.invokevirtual 48, 3) := by decide +kernel
theorem dL_law_381 : decode cL_law 381 = .ok (.aload_n 2, 1) := by decide +kernel
theorem dL_law_382 : decode cL_law 382 = .ok (.aload_n 0, 1) := by decide +kernel
theorem dL_law_383 : decode cL_law 383 = .ok (.iload_n 3, 1) := by decide +kernel
theorem dL_law_384 : decode cL_law 384 = .ok (.iconst 1, 1) := by decide +kernel
theorem dL_law_385 : decode cL_law 385 = .ok (.iadd, 1) := by decide +kernel
theorem dL_law_386 : decode cL_law 386 = .ok (.iaload, 1) := by decide +kernel
theorem dL_law_387 : decode cL_law 387 = .ok (.invokevirtual 51, 3) := by decide +kernel
theorem dL_law_390 : decode cL_law 390 = .ok (.if_icmp .eq 623, 3) := by decide +kernel
theorem dL_law_393 : decode cL_law 393 = .ok (.iconst 0, 1) := by decide +kernel
theorem dL_law_394 : decode cL_law 394 = .ok (.ireturn, 1) := by decide +kernel
theorem dL_law_395 : decode cL_law 395 = .ok (.aload_n 1, 1) := by decide +kernel
theorem dL_law_396 : decode cL_law 396 = .ok (.invokevirtual 52, 3) := by decide +kernel
theorem dL_law_399 : decode cL_law 399 = .ok (.aload_n 2, 1) := by decide +kernel
theorem dL_law_400 : decode cL_law 400 = .ok (.invokevirtual 55, 3) := by decide +kernel
theorem dL_law_403 : decode cL_law 403 = .ok (.if_icmp .eq 610, 3) := by decide +kernel
theorem dL_law_406 : decode cL_law 406 = .ok (.iconst 0, 1) := by decide +kernel
theorem dL_law_407 : decode cL_law 407 = .ok (.ireturn, 1) := by decide +kernel
theorem dL_law_408 : decode cL_law 408 = .ok (.aload_n 1, 1) := by decide +kernel
theorem dL_law_409 : decode cL_law 409 = .ok (.invokevirtual 56, 3) := by decide +kernel
theorem dL_law_412 : decode cL_law 412 = .ok (.aload_n 2, 1) := by decide +kernel
theorem dL_law_413 : decode cL_law 413 = .ok (.invokevirtual 59, 3) := by decide +kernel
theorem dL_law_416 : decode cL_law 416 = .ok (.if_icmp .eq 597, 3) := by decide +kernel
theorem dL_law_419 : decode cL_law 419 = .ok (.iconst 0, 1) := by decide +kernel
theorem dL_law_420 : decode cL_law 420 = .ok (.ireturn, 1) := by decide +kernel
theorem dL_law_421 : decode cL_law 421 = .ok (.aload_n 1, 1) := by decide +kernel
theorem dL_law_422 : decode cL_law 422 = .ok (.invokevirtual 60, 3) := by decide +kernel
theorem dL_law_425 : decode cL_law 425 = .ok (.aload_n 2, 1) := by decide +kernel
theorem dL_law_426 : decode cL_law 426 = .ok (.invokevirtual 63, 3) := by decide +kernel
theorem dL_law_429 : decode cL_law 429 = .ok (.if_icmp .eq 584, 3) := by decide +kernel
theorem dL_law_432 : decode cL_law 432 = .ok (.iconst 0, 1) := by decide +kernel
theorem dL_law_433 : decode cL_law 433 = .ok (.ireturn, 1) := by decide +kernel
theorem dL_law_434 : decode cL_law 434 = .ok (.aload_n 1, 1) := by decide +kernel
theorem dL_law_435 : decode cL_law 435 = .ok (.invokevirtual 64, 3) := by decide +kernel
theorem dL_law_438 : decode cL_law 438 = .ok (.aload_n 2, 1) := by decide +kernel
theorem dL_law_439 : decode cL_law 439 = .ok (.invokevirtual 67, 3) := by decide +kernel
theorem dL_law_442 : decode cL_law 442 = .ok (.if_icmp .eq 571, 3) := by decide +kernel
theorem dL_law_445 : decode cL_law 445 = .ok (.iconst 0, 1) := by decide +kernel
theorem dL_law_446 : decode cL_law 446 = .ok (.ireturn, 1) := by decide +kernel
theorem dL_law_447 : decode cL_law 447 = .ok (.aload_n 1, 1) := by decide +kernel
theorem dL_law_448 : decode cL_law 448 = .ok (.aload_n 0, 1) := by decide +kernel
theorem dL_law_449 : decode cL_law 449 = .ok (.iload_n 3, 1) := by decide +kernel
theorem dL_law_450 : decode cL_law 450 = .ok (.iconst 1, 1) := by decide +kernel
theorem dL_law_451 : decode cL_law 451 = .ok (.iadd, 1) := by decide +kernel
theorem dL_law_452 : decode cL_law 452 = .ok (.iaload, 1) := by decide +kernel
theorem dL_law_453 : decode cL_law 453 = .ok (.aload_n 0, 1) := by decide +kernel
theorem dL_law_454 : decode cL_law 454 = .ok (.iload_n 3, 1) := by decide +kernel
theorem dL_law_455 : decode cL_law 455 = .ok (.iconst 2, 1) := by decide +kernel
theorem dL_law_456 : decode cL_law 456 = .ok (.iadd, 1) := by decide +kernel
theorem dL_law_457 : decode cL_law 457 = .ok (.iaload, 1) := by decide +kernel
theorem dL_law_458 : decode cL_law 458 = .ok (.invokevirtual 68, 3) := by decide +kernel
theorem dL_law_461 : decode cL_law 461 = .ok (.aload_n 2, 1) := by decide +kernel
theorem dL_law_462 : decode cL_law 462 = .ok (.aload_n 0, 1) := by decide +kernel
theorem dL_law_463 : decode cL_law 463 = .ok (.iload_n 3, 1) := by decide +kernel
theorem dL_law_464 : decode cL_law 464 = .ok (.iconst 1, 1) := by decide +kernel
theorem dL_law_465 : decode cL_law 465 = .ok (.iadd, 1) := by decide +kernel
theorem dL_law_466 : decode cL_law 466 = .ok (.iaload, 1) := by decide +kernel
theorem dL_law_467 : decode cL_law 467 = .ok (.aload_n 0, 1) := by decide +kernel
theorem dL_law_468 : decode cL_law 468 = .ok (.iload_n 3, 1) := by decide +kernel
theorem dL_law_469 : decode cL_law 469 = .ok (.iconst 2, 1) := by decide +kernel
theorem dL_law_470 : decode cL_law 470 = .ok (.iadd, 1) := by decide +kernel
theorem dL_law_471 : decode cL_law 471 = .ok (.iaload, 1) := by decide +kernel
theorem dL_law_472 : decode cL_law 472 = .ok (.invokevirtual 71, 3) := by decide +kernel
theorem dL_law_475 : decode cL_law 475 = .ok (.if_icmp .eq 538, 3) := by decide +kernel
theorem dL_law_478 : decode cL_law 478 = .ok (.iconst 0, 1) := by decide +kernel
theorem dL_law_479 : decode cL_law 479 = .ok (.ireturn, 1) := by decide +kernel
theorem dL_law_480 : decode cL_law 480 = .ok (.aload_n 1, 1) := by decide +kernel
theorem dL_law_481 : decode cL_law 481 = .ok (.aload_n 0, 1) := by decide +kernel
theorem dL_law_482 : decode cL_law 482 = .ok (.iload_n 3, 1) := by decide +kernel
theorem dL_law_483 : decode cL_law 483 = .ok (.iconst 1, 1) := by decide +kernel
theorem dL_law_484 : decode cL_law 484 = .ok (.iadd, 1) := by decide +kernel
theorem dL_law_485 : decode cL_law 485 = .ok (.iaload, 1) := by decide +kernel
theorem dL_law_486 : decode cL_law 486 = .ok (.aload_n 0, 1) := by decide +kernel
theorem dL_law_487 : decode cL_law 487 = .ok (.iload_n 3, 1) := by decide +kernel
theorem dL_law_488 : decode cL_law 488 = .ok (.iconst 2, 1) := by decide +kernel
theorem dL_law_489 : decode cL_law 489 = .ok (.iadd, 1) := by decide +kernel
theorem dL_law_490 : decode cL_law 490 = .ok (.iaload, 1) := by decide +kernel
theorem dL_law_491 : decode cL_law 491 = .ok (.invokevirtual 72, 3) := by decide +kernel
theorem dL_law_494 : decode cL_law 494 = .ok (.aload_n 2, 1) := by decide +kernel
theorem dL_law_495 : decode cL_law 495 = .ok (.aload_n 0, 1) := by decide +kernel
theorem dL_law_496 : decode cL_law 496 = .ok (.iload_n 3, 1) := by decide +kernel
theorem dL_law_497 : decode cL_law 497 = .ok (.iconst 1, 1) := by decide +kernel
theorem dL_law_498 : decode cL_law 498 = .ok (.iadd, 1) := by decide +kernel
theorem dL_law_499 : decode cL_law 499 = .ok (.iaload, 1) := by decide +kernel
theorem dL_law_500 : decode cL_law 500 = .ok (.aload_n 0, 1) := by decide +kernel
theorem dL_law_501 : decode cL_law 501 = .ok (.iload_n 3, 1) := by decide +kernel
theorem dL_law_502 : decode cL_law 502 = .ok (.iconst 2, 1) := by decide +kernel
theorem dL_law_503 : decode cL_law 503 = .ok (.iadd, 1) := by decide +kernel
theorem dL_law_504 : decode cL_law 504 = .ok (.iaload, 1) := by decide +kernel
theorem dL_law_505 : decode cL_law 505 = .ok (.invokevirtual 75, 3) := by decide +kernel
theorem dL_law_508 : decode cL_law 508 = .ok (.if_icmp .eq 505, 3) := by decide +kernel
theorem dL_law_511 : decode cL_law 511 = .ok (.iconst 0, 1) := by decide +kernel
theorem dL_law_512 : decode cL_law 512 = .ok (.ireturn, 1) := by decide +kernel
theorem dL_law_513 : decode cL_law 513 = .ok (.aload_n 1, 1) := by decide +kernel
theorem dL_law_514 : decode cL_law 514 = .ok (.aload_n 0, 1) := by decide +kernel
theorem dL_law_515 : decode cL_law 515 = .ok (.iload_n 3, 1) := by decide +kernel
theorem dL_law_516 : decode cL_law 516 = .ok (.iconst 1, 1) := by decide +kernel
theorem dL_law_517 : decode cL_law 517 = .ok (.iadd, 1) := by decide +kernel
theorem dL_law_518 : decode cL_law 518 = .ok (.iaload, 1) := by decide +kernel
theorem dL_law_519 : decode cL_law 519 = .ok (.invokevirtual 76, 3) := by decide +kernel
theorem dL_law_522 : decode cL_law 522 = .ok (.aload_n 2, 1) := by decide +kernel
theorem dL_law_523 : decode cL_law 523 = .ok (.aload_n 0, 1) := by decide +kernel
theorem dL_law_524 : decode cL_law 524 = .ok (.iload_n 3, 1) := by decide +kernel
theorem dL_law_525 : decode cL_law 525 = .ok (.iconst 1, 1) := by decide +kernel
theorem dL_law_526 : decode cL_law 526 = .ok (.iadd, 1) := by decide +kernel
theorem dL_law_527 : decode cL_law 527 = .ok (.iaload, 1) := by decide +kernel
theorem dL_law_528 : decode cL_law 528 = .ok (.invokevirtual 79, 3) := by decide +kernel
theorem dL_law_531 : decode cL_law 531 = .ok (.if_icmp .eq 482, 3) := by decide +kernel
theorem dL_law_534 : decode cL_law 534 = .ok (.iconst 0, 1) := by decide +kernel
theorem dL_law_535 : decode cL_law 535 = .ok (.ireturn, 1) := by decide +kernel
theorem dL_law_536 : decode cL_law 536 = .ok (.aload_n 1, 1) := by decide +kernel
theorem dL_law_537 : decode cL_law 537 = .ok (.aload_n 0, 1) := by decide +kernel
theorem dL_law_538 : decode cL_law 538 = .ok (.iload_n 3, 1) := by decide +kernel
theorem dL_law_539 : decode cL_law 539 = .ok (.iconst 1, 1) := by decide +kernel
theorem dL_law_540 : decode cL_law 540 = .ok (.iadd, 1) := by decide +kernel
theorem dL_law_541 : decode cL_law 541 = .ok (.iaload, 1) := by decide +kernel
theorem dL_law_542 : decode cL_law 542 = .ok (.invokevirtual 80, 3) := by decide +kernel
theorem dL_law_545 : decode cL_law 545 = .ok (.aload_n 2, 1) := by decide +kernel
theorem dL_law_546 : decode cL_law 546 = .ok (.aload_n 0, 1) := by decide +kernel
theorem dL_law_547 : decode cL_law 547 = .ok (.iload_n 3, 1) := by decide +kernel
theorem dL_law_548 : decode cL_law 548 = .ok (.iconst 1, 1) := by decide +kernel
theorem dL_law_549 : decode cL_law 549 = .ok (.iadd, 1) := by decide +kernel
theorem dL_law_550 : decode cL_law 550 = .ok (.iaload, 1) := by decide +kernel
theorem dL_law_551 : decode cL_law 551 = .ok (.invokevirtual 83, 3) := by decide +kernel
theorem dL_law_554 : decode cL_law 554 = .ok (.if_icmp .eq 459, 3) := by decide +kernel
theorem dL_law_557 : decode cL_law 557 = .ok (.iconst 0, 1) := by decide +kernel
theorem dL_law_558 : decode cL_law 558 = .ok (.ireturn, 1) := by decide +kernel
theorem dL_law_559 : decode cL_law 559 = .ok (.aload_n 1, 1) := by decide +kernel
theorem dL_law_560 : decode cL_law 560 = .ok (.invokevirtual 84, 3) := by decide +kernel
theorem dL_law_563 : decode cL_law 563 = .ok (.aload_n 2, 1) := by decide +kernel
theorem dL_law_564 : decode cL_law 564 = .ok (.invokevirtual 87, 3) := by decide +kernel
theorem dL_law_567 : decode cL_law 567 = .ok (.if_icmp .eq 446, 3) := by decide +kernel
theorem dL_law_570 : decode cL_law 570 = .ok (.iconst 0, 1) := by decide +kernel
theorem dL_law_571 : decode cL_law 571 = .ok (.ireturn, 1) := by decide +kernel
theorem dL_law_572 : decode cL_law 572 = .ok (.aload_n 1, 1) := by decide +kernel
theorem dL_law_573 : decode cL_law 573 = .ok (.aload_n 0, 1) := by decide +kernel
theorem dL_law_574 : decode cL_law 574 = .ok (.iload_n 3, 1) := by decide +kernel
theorem dL_law_575 : decode cL_law 575 = .ok (.iconst 1, 1) := by decide +kernel
theorem dL_law_576 : decode cL_law 576 = .ok (.iadd, 1) := by decide +kernel
theorem dL_law_577 : decode cL_law 577 = .ok (.iaload, 1) := by decide +kernel
theorem dL_law_578 : decode cL_law 578 = .ok (.aload_n 0, 1) := by decide +kernel
theorem dL_law_579 : decode cL_law 579 = .ok (.iload_n 3, 1) := by decide +kernel
theorem dL_law_580 : decode cL_law 580 = .ok (.iconst 2, 1) := by decide +kernel
theorem dL_law_581 : decode cL_law 581 = .ok (.iadd, 1) := by decide +kernel
theorem dL_law_582 : decode cL_law 582 = .ok (.iaload, 1) := by decide +kernel
theorem dL_law_583 : decode cL_law 583 = .ok (.invokevirtual 88, 3) := by decide +kernel
theorem dL_law_586 : decode cL_law 586 = .ok (.aload_n 2, 1) := by decide +kernel
theorem dL_law_587 : decode cL_law 587 = .ok (.aload_n 0, 1) := by decide +kernel
theorem dL_law_588 : decode cL_law 588 = .ok (.iload_n 3, 1) := by decide +kernel
theorem dL_law_589 : decode cL_law 589 = .ok (.iconst 1, 1) := by decide +kernel
theorem dL_law_590 : decode cL_law 590 = .ok (.iadd, 1) := by decide +kernel
theorem dL_law_591 : decode cL_law 591 = .ok (.iaload, 1) := by decide +kernel
theorem dL_law_592 : decode cL_law 592 = .ok (.aload_n 0, 1) := by decide +kernel
theorem dL_law_593 : decode cL_law 593 = .ok (.iload_n 3, 1) := by decide +kernel
theorem dL_law_594 : decode cL_law 594 = .ok (.iconst 2, 1) := by decide +kernel
theorem dL_law_595 : decode cL_law 595 = .ok (.iadd, 1) := by decide +kernel
theorem dL_law_596 : decode cL_law 596 = .ok (.iaload, 1) := by decide +kernel
theorem dL_law_597 : decode cL_law 597 = .ok (.invokevirtual 91, 3) := by decide +kernel
theorem dL_law_600 : decode cL_law 600 = .ok (.if_icmp .eq 413, 3) := by decide +kernel
theorem dL_law_603 : decode cL_law 603 = .ok (.iconst 0, 1) := by decide +kernel
theorem dL_law_604 : decode cL_law 604 = .ok (.ireturn, 1) := by decide +kernel
theorem dL_law_605 : decode cL_law 605 = .ok (.aload_n 1, 1) := by decide +kernel
theorem dL_law_606 : decode cL_law 606 = .ok (.aload_n 0, 1) := by decide +kernel
theorem dL_law_607 : decode cL_law 607 = .ok (.iload_n 3, 1) := by decide +kernel
theorem dL_law_608 : decode cL_law 608 = .ok (.iconst 1, 1) := by decide +kernel
theorem dL_law_609 : decode cL_law 609 = .ok (.iadd, 1) := by decide +kernel
theorem dL_law_610 : decode cL_law 610 = .ok (.iaload, 1) := by decide +kernel
theorem dL_law_611 : decode cL_law 611 = .ok (.aload_n 0, 1) := by decide +kernel
theorem dL_law_612 : decode cL_law 612 = .ok (.iload_n 3, 1) := by decide +kernel
theorem dL_law_613 : decode cL_law 613 = .ok (.iconst 2, 1) := by decide +kernel
theorem dL_law_614 : decode cL_law 614 = .ok (.iadd, 1) := by decide +kernel
theorem dL_law_615 : decode cL_law 615 = .ok (.iaload, 1) := by decide +kernel
theorem dL_law_616 : decode cL_law 616 = .ok (.aload_n 0, 1) := by decide +kernel
theorem dL_law_617 : decode cL_law 617 = .ok (.iload_n 3, 1) := by decide +kernel
theorem dL_law_618 : decode cL_law 618 = .ok (.iconst 3, 1) := by decide +kernel
theorem dL_law_619 : decode cL_law 619 = .ok (.iadd, 1) := by decide +kernel
theorem dL_law_620 : decode cL_law 620 = .ok (.iaload, 1) := by decide +kernel
theorem dL_law_621 : decode cL_law 621 = .ok (.invokevirtual 92, 3) := by decide +kernel
theorem dL_law_624 : decode cL_law 624 = .ok (.aload_n 2, 1) := by decide +kernel
theorem dL_law_625 : decode cL_law 625 = .ok (.aload_n 0, 1) := by decide +kernel
theorem dL_law_626 : decode cL_law 626 = .ok (.iload_n 3, 1) := by decide +kernel
theorem dL_law_627 : decode cL_law 627 = .ok (.iconst 1, 1) := by decide +kernel
theorem dL_law_628 : decode cL_law 628 = .ok (.iadd, 1) := by decide +kernel
theorem dL_law_629 : decode cL_law 629 = .ok (.iaload, 1) := by decide +kernel
theorem dL_law_630 : decode cL_law 630 = .ok (.aload_n 0, 1) := by decide +kernel
theorem dL_law_631 : decode cL_law 631 = .ok (.iload_n 3, 1) := by decide +kernel
theorem dL_law_632 : decode cL_law 632 = .ok (.iconst 2, 1) := by decide +kernel
theorem dL_law_633 : decode cL_law 633 = .ok (.iadd, 1) := by decide +kernel
theorem dL_law_634 : decode cL_law 634 = .ok (.iaload, 1) := by decide +kernel
theorem dL_law_635 : decode cL_law 635 = .ok (.aload_n 0, 1) := by decide +kernel
theorem dL_law_636 : decode cL_law 636 = .ok (.iload_n 3, 1) := by decide +kernel
theorem dL_law_637 : decode cL_law 637 = .ok (.iconst 3, 1) := by decide +kernel
theorem dL_law_638 : decode cL_law 638 = .ok (.iadd, 1) := by decide +kernel
theorem dL_law_639 : decode cL_law 639 = .ok (.iaload, 1) := by decide +kernel
theorem dL_law_640 : decode cL_law 640 = .ok (.invokevirtual 96, 3) := by decide +kernel
theorem dL_law_643 : decode cL_law 643 = .ok (.if_icmp .eq 370, 3) := by decide +kernel
theorem dL_law_646 : decode cL_law 646 = .ok (.iconst 0, 1) := by decide +kernel
theorem dL_law_647 : decode cL_law 647 = .ok (.ireturn, 1) := by decide +kernel
theorem dL_law_648 : decode cL_law 648 = .ok (.aload_n 1, 1) := by decide +kernel
theorem dL_law_649 : decode cL_law 649 = .ok (.aload_n 0, 1) := by decide +kernel
theorem dL_law_650 : decode cL_law 650 = .ok (.iload_n 3, 1) := by decide +kernel
theorem dL_law_651 : decode cL_law 651 = .ok (.iconst 1, 1) := by decide +kernel
theorem dL_law_652 : decode cL_law 652 = .ok (.iadd, 1) := by decide +kernel
theorem dL_law_653 : decode cL_law 653 = .ok (.iaload, 1) := by decide +kernel
theorem dL_law_654 : decode cL_law 654 = .ok (.aload_n 0, 1) := by decide +kernel
theorem dL_law_655 : decode cL_law 655 = .ok (.iload_n 3, 1) := by decide +kernel
theorem dL_law_656 : decode cL_law 656 = .ok (.iconst 2, 1) := by decide +kernel
theorem dL_law_657 : decode cL_law 657 = .ok (.iadd, 1) := by decide +kernel
theorem dL_law_658 : decode cL_law 658 = .ok (.iaload, 1) := by decide +kernel
theorem dL_law_659 : decode cL_law 659 = .ok (.invokevirtual 97, 3) := by decide +kernel
theorem dL_law_662 : decode cL_law 662 = .ok (.aload_n 2, 1) := by decide +kernel
theorem dL_law_663 : decode cL_law 663 = .ok (.aload_n 0, 1) := by decide +kernel
theorem dL_law_664 : decode cL_law 664 = .ok (.iload_n 3, 1) := by decide +kernel
theorem dL_law_665 : decode cL_law 665 = .ok (.iconst 1, 1) := by decide +kernel
theorem dL_law_666 : decode cL_law 666 = .ok (.iadd, 1) := by decide +kernel
theorem dL_law_667 : decode cL_law 667 = .ok (.iaload, 1) := by decide +kernel
theorem dL_law_668 : decode cL_law 668 = .ok (.aload_n 0, 1) := by decide +kernel
theorem dL_law_669 : decode cL_law 669 = .ok (.iload_n 3, 1) := by decide +kernel
theorem dL_law_670 : decode cL_law 670 = .ok (.iconst 2, 1) := by decide +kernel
theorem dL_law_671 : decode cL_law 671 = .ok (.iadd, 1) := by decide +kernel
theorem dL_law_672 : decode cL_law 672 = .ok (.iaload, 1) := by decide +kernel
theorem dL_law_673 : decode cL_law 673 = .ok (.invokevirtual 100, 3) := by decide +kernel
theorem dL_law_676 : decode cL_law 676 = .ok (.if_icmp .eq 337, 3) := by decide +kernel
theorem dL_law_679 : decode cL_law 679 = .ok (.iconst 0, 1) := by decide +kernel
theorem dL_law_680 : decode cL_law 680 = .ok (.ireturn, 1) := by decide +kernel
theorem dL_law_681 : decode cL_law 681 = .ok (.aload_n 1, 1) := by decide +kernel
theorem dL_law_682 : decode cL_law 682 = .ok (.aload_n 0, 1) := by decide +kernel
theorem dL_law_683 : decode cL_law 683 = .ok (.iload_n 3, 1) := by decide +kernel
theorem dL_law_684 : decode cL_law 684 = .ok (.iconst 1, 1) := by decide +kernel
theorem dL_law_685 : decode cL_law 685 = .ok (.iadd, 1) := by decide +kernel
theorem dL_law_686 : decode cL_law 686 = .ok (.iaload, 1) := by decide +kernel
theorem dL_law_687 : decode cL_law 687 = .ok (.invokevirtual 101, 3) := by decide +kernel
theorem dL_law_690 : decode cL_law 690 = .ok (.aload_n 2, 1) := by decide +kernel
theorem dL_law_691 : decode cL_law 691 = .ok (.aload_n 0, 1) := by decide +kernel
theorem dL_law_692 : decode cL_law 692 = .ok (.iload_n 3, 1) := by decide +kernel
theorem dL_law_693 : decode cL_law 693 = .ok (.iconst 1, 1) := by decide +kernel
theorem dL_law_694 : decode cL_law 694 = .ok (.iadd, 1) := by decide +kernel
theorem dL_law_695 : decode cL_law 695 = .ok (.iaload, 1) := by decide +kernel
theorem dL_law_696 : decode cL_law 696 = .ok (.invokevirtual 104, 3) := by decide +kernel
theorem dL_law_699 : decode cL_law 699 = .ok (.if_icmp .eq 314, 3) := by decide +kernel
theorem dL_law_702 : decode cL_law 702 = .ok (.iconst 0, 1) := by decide +kernel
theorem dL_law_703 : decode cL_law 703 = .ok (.ireturn, 1) := by decide +kernel
theorem dL_law_704 : decode cL_law 704 = .ok (.aload_n 1, 1) := by decide +kernel
theorem dL_law_705 : decode cL_law 705 = .ok (.aload_n 0, 1) := by decide +kernel
theorem dL_law_706 : decode cL_law 706 = .ok (.iload_n 3, 1) := by decide +kernel
theorem dL_law_707 : decode cL_law 707 = .ok (.iconst 1, 1) := by decide +kernel
theorem dL_law_708 : decode cL_law 708 = .ok (.iadd, 1) := by decide +kernel
theorem dL_law_709 : decode cL_law 709 = .ok (.iaload, 1) := by decide +kernel
theorem dL_law_710 : decode cL_law 710 = .ok (.aload_n 0, 1) := by decide +kernel
theorem dL_law_711 : decode cL_law 711 = .ok (.iload_n 3, 1) := by decide +kernel
theorem dL_law_712 : decode cL_law 712 = .ok (.iconst 2, 1) := by decide +kernel
theorem dL_law_713 : decode cL_law 713 = .ok (.iadd, 1) := by decide +kernel
theorem dL_law_714 : decode cL_law 714 = .ok (.iaload, 1) := by decide +kernel
theorem dL_law_715 : decode cL_law 715 = .ok (.aload_n 0, 1) := by decide +kernel
theorem dL_law_716 : decode cL_law 716 = .ok (.iload_n 3, 1) := by decide +kernel
theorem dL_law_717 : decode cL_law 717 = .ok (.iconst 3, 1) := by decide +kernel
theorem dL_law_718 : decode cL_law 718 = .ok (.iadd, 1) := by decide +kernel
theorem dL_law_719 : decode cL_law 719 = .ok (.iaload, 1) := by decide +kernel
theorem dL_law_720 : decode cL_law 720 = .ok (.invokevirtual 105, 3) := by decide +kernel
theorem dL_law_723 : decode cL_law 723 = .ok (.aload_n 2, 1) := by decide +kernel
theorem dL_law_724 : decode cL_law 724 = .ok (.aload_n 0, 1) := by decide +kernel
theorem dL_law_725 : decode cL_law 725 = .ok (.iload_n 3, 1) := by decide +kernel
theorem dL_law_726 : decode cL_law 726 = .ok (.iconst 1, 1) := by decide +kernel
theorem dL_law_727 : decode cL_law 727 = .ok (.iadd, 1) := by decide +kernel
theorem dL_law_728 : decode cL_law 728 = .ok (.iaload, 1) := by decide +kernel
theorem dL_law_729 : decode cL_law 729 = .ok (.aload_n 0, 1) := by decide +kernel
theorem dL_law_730 : decode cL_law 730 = .ok (.iload_n 3, 1) := by decide +kernel
theorem dL_law_731 : decode cL_law 731 = .ok (.iconst 2, 1) := by decide +kernel
theorem dL_law_732 : decode cL_law 732 = .ok (.iadd, 1) := by decide +kernel
theorem dL_law_733 : decode cL_law 733 = .ok (.iaload, 1) := by decide +kernel
theorem dL_law_734 : decode cL_law 734 = .ok (.aload_n 0, 1) := by decide +kernel
theorem dL_law_735 : decode cL_law 735 = .ok (.iload_n 3, 1) := by decide +kernel
theorem dL_law_736 : decode cL_law 736 = .ok (.iconst 3, 1) := by decide +kernel
theorem dL_law_737 : decode cL_law 737 = .ok (.iadd, 1) := by decide +kernel
theorem dL_law_738 : decode cL_law 738 = .ok (.iaload, 1) := by decide +kernel
theorem dL_law_739 : decode cL_law 739 = .ok (.invokevirtual 108, 3) := by decide +kernel
theorem dL_law_742 : decode cL_law 742 = .ok (.if_icmp .eq 271, 3) := by decide +kernel
theorem dL_law_745 : decode cL_law 745 = .ok (.iconst 0, 1) := by decide +kernel
theorem dL_law_746 : decode cL_law 746 = .ok (.ireturn, 1) := by decide +kernel
theorem dL_law_747 : decode cL_law 747 = .ok (.aload_n 1, 1) := by decide +kernel
theorem dL_law_748 : decode cL_law 748 = .ok (.aload_n 0, 1) := by decide +kernel
theorem dL_law_749 : decode cL_law 749 = .ok (.iload_n 3, 1) := by decide +kernel
theorem dL_law_750 : decode cL_law 750 = .ok (.iconst 1, 1) := by decide +kernel
theorem dL_law_751 : decode cL_law 751 = .ok (.iadd, 1) := by decide +kernel
theorem dL_law_752 : decode cL_law 752 = .ok (.iaload, 1) := by decide +kernel
theorem dL_law_753 : decode cL_law 753 = .ok (.invokevirtual 109, 3) := by decide +kernel
theorem dL_law_756 : decode cL_law 756 = .ok (.aload_n 2, 1) := by decide +kernel
theorem dL_law_757 : decode cL_law 757 = .ok (.aload_n 0, 1) := by decide +kernel
theorem dL_law_758 : decode cL_law 758 = .ok (.iload_n 3, 1) := by decide +kernel
theorem dL_law_759 : decode cL_law 759 = .ok (.iconst 1, 1) := by decide +kernel
theorem dL_law_760 : decode cL_law 760 = .ok (.iadd, 1) := by decide +kernel
theorem dL_law_761 : decode cL_law 761 = .ok (.iaload, 1) := by decide +kernel
theorem dL_law_762 : decode cL_law 762 = .ok (.invokevirtual 112, 3) := by decide +kernel
theorem dL_law_765 : decode cL_law 765 = .ok (.if_icmp .eq 248, 3) := by decide +kernel
theorem dL_law_768 : decode cL_law 768 = .ok (.iconst 0, 1) := by decide +kernel
theorem dL_law_769 : decode cL_law 769 = .ok (.ireturn, 1) := by decide +kernel
theorem dL_law_770 : decode cL_law 770 = .ok (.aload_n 1, 1) := by decide +kernel
theorem dL_law_771 : decode cL_law 771 = .ok (.aload_n 0, 1) := by decide +kernel
theorem dL_law_772 : decode cL_law 772 = .ok (.iload_n 3, 1) := by decide +kernel
theorem dL_law_773 : decode cL_law 773 = .ok (.iconst 1, 1) := by decide +kernel
theorem dL_law_774 : decode cL_law 774 = .ok (.iadd, 1) := by decide +kernel
theorem dL_law_775 : decode cL_law 775 = .ok (.iaload, 1) := by decide +kernel
theorem dL_law_776 : decode cL_law 776 = .ok (.aload_n 0, 1) := by decide +kernel
theorem dL_law_777 : decode cL_law 777 = .ok (.iload_n 3, 1) := by decide +kernel
theorem dL_law_778 : decode cL_law 778 = .ok (.iconst 2, 1) := by decide +kernel
theorem dL_law_779 : decode cL_law 779 = .ok (.iadd, 1) := by decide +kernel
theorem dL_law_780 : decode cL_law 780 = .ok (.iaload, 1) := by decide +kernel
theorem dL_law_781 : decode cL_law 781 = .ok (.invokevirtual 113, 3) := by decide +kernel
theorem dL_law_784 : decode cL_law 784 = .ok (.aload_n 2, 1) := by decide +kernel
theorem dL_law_785 : decode cL_law 785 = .ok (.aload_n 0, 1) := by decide +kernel
theorem dL_law_786 : decode cL_law 786 = .ok (.iload_n 3, 1) := by decide +kernel
theorem dL_law_787 : decode cL_law 787 = .ok (.iconst 1, 1) := by decide +kernel
theorem dL_law_788 : decode cL_law 788 = .ok (.iadd, 1) := by decide +kernel
theorem dL_law_789 : decode cL_law 789 = .ok (.iaload, 1) := by decide +kernel
theorem dL_law_790 : decode cL_law 790 = .ok (.aload_n 0, 1) := by decide +kernel
theorem dL_law_791 : decode cL_law 791 = .ok (.iload_n 3, 1) := by decide +kernel
theorem dL_law_792 : decode cL_law 792 = .ok (.iconst 2, 1) := by decide +kernel
theorem dL_law_793 : decode cL_law 793 = .ok (.iadd, 1) := by decide +kernel
theorem dL_law_794 : decode cL_law 794 = .ok (.iaload, 1) := by decide +kernel
theorem dL_law_795 : decode cL_law 795 = .ok (.invokevirtual 116, 3) := by decide +kernel
theorem dL_law_798 : decode cL_law 798 = .ok (.if_icmp .eq 215, 3) := by decide +kernel
theorem dL_law_801 : decode cL_law 801 = .ok (.iconst 0, 1) := by decide +kernel
theorem dL_law_802 : decode cL_law 802 = .ok (.ireturn, 1) := by decide +kernel
theorem dL_law_803 : decode cL_law 803 = .ok (.aload_n 1, 1) := by decide +kernel
theorem dL_law_804 : decode cL_law 804 = .ok (.invokevirtual 117, 3) := by decide +kernel
theorem dL_law_807 : decode cL_law 807 = .ok (.aload_n 2, 1) := by decide +kernel
theorem dL_law_808 : decode cL_law 808 = .ok (.invokevirtual 120, 3) := by decide +kernel
theorem dL_law_811 : decode cL_law 811 = .ok (.if_icmp .eq 202, 3) := by decide +kernel
theorem dL_law_814 : decode cL_law 814 = .ok (.iconst 0, 1) := by decide +kernel
theorem dL_law_815 : decode cL_law 815 = .ok (.ireturn, 1) := by decide +kernel
theorem dL_law_816 : decode cL_law 816 = .ok (.aload_n 1, 1) := by decide +kernel
theorem dL_law_817 : decode cL_law 817 = .ok (.aload_n 0, 1) := by decide +kernel
theorem dL_law_818 : decode cL_law 818 = .ok (.iload_n 3, 1) := by decide +kernel
theorem dL_law_819 : decode cL_law 819 = .ok (.iconst 1, 1) := by decide +kernel
theorem dL_law_820 : decode cL_law 820 = .ok (.iadd, 1) := by decide +kernel
theorem dL_law_821 : decode cL_law 821 = .ok (.iaload, 1) := by decide +kernel
theorem dL_law_822 : decode cL_law 822 = .ok (.invokevirtual 121, 3) := by decide +kernel
theorem dL_law_825 : decode cL_law 825 = .ok (.aload_n 2, 1) := by decide +kernel
theorem dL_law_826 : decode cL_law 826 = .ok (.aload_n 0, 1) := by decide +kernel
theorem dL_law_827 : decode cL_law 827 = .ok (.iload_n 3, 1) := by decide +kernel
theorem dL_law_828 : decode cL_law 828 = .ok (.iconst 1, 1) := by decide +kernel
theorem dL_law_829 : decode cL_law 829 = .ok (.iadd, 1) := by decide +kernel
theorem dL_law_830 : decode cL_law 830 = .ok (.iaload, 1) := by decide +kernel
theorem dL_law_831 : decode cL_law 831 = .ok (.invokevirtual 124, 3) := by decide +kernel
theorem dL_law_834 : decode cL_law 834 = .ok (.if_icmp .eq 179, 3) := by decide +kernel
theorem dL_law_837 : decode cL_law 837 = .ok (.iconst 0, 1) := by decide +kernel
theorem dL_law_838 : decode cL_law 838 = .ok (.ireturn, 1) := by decide +kernel
theorem dL_law_839 : decode cL_law 839 = .ok (.aload_n 1, 1) := by decide +kernel
theorem dL_law_840 : decode cL_law 840 = .ok (.aload_n 0, 1) := by decide +kernel
theorem dL_law_841 : decode cL_law 841 = .ok (.iload_n 3, 1) := by decide +kernel
theorem dL_law_842 : decode cL_law 842 = .ok (.iconst 1, 1) := by decide +kernel
theorem dL_law_843 : decode cL_law 843 = .ok (.iadd, 1) := by decide +kernel
theorem dL_law_844 : decode cL_law 844 = .ok (.iaload, 1) := by decide +kernel
theorem dL_law_845 : decode cL_law 845 = .ok (.aload_n 0, 1) := by decide +kernel
theorem dL_law_846 : decode cL_law 846 = .ok (.iload_n 3, 1) := by decide +kernel
theorem dL_law_847 : decode cL_law 847 = .ok (.iconst 2, 1) := by decide +kernel
theorem dL_law_848 : decode cL_law 848 = .ok (.iadd, 1) := by decide +kernel
theorem dL_law_849 : decode cL_law 849 = .ok (.iaload, 1) := by decide +kernel
theorem dL_law_850 : decode cL_law 850 = .ok (.invokevirtual 125, 3) := by decide +kernel
theorem dL_law_853 : decode cL_law 853 = .ok (.aload_n 2, 1) := by decide +kernel
theorem dL_law_854 : decode cL_law 854 = .ok (.aload_n 0, 1) := by decide +kernel
theorem dL_law_855 : decode cL_law 855 = .ok (.iload_n 3, 1) := by decide +kernel
theorem dL_law_856 : decode cL_law 856 = .ok (.iconst 1, 1) := by decide +kernel
theorem dL_law_857 : decode cL_law 857 = .ok (.iadd, 1) := by decide +kernel
theorem dL_law_858 : decode cL_law 858 = .ok (.iaload, 1) := by decide +kernel
theorem dL_law_859 : decode cL_law 859 = .ok (.aload_n 0, 1) := by decide +kernel
theorem dL_law_860 : decode cL_law 860 = .ok (.iload_n 3, 1) := by decide +kernel
theorem dL_law_861 : decode cL_law 861 = .ok (.iconst 2, 1) := by decide +kernel
theorem dL_law_862 : decode cL_law 862 = .ok (.iadd, 1) := by decide +kernel
theorem dL_law_863 : decode cL_law 863 = .ok (.iaload, 1) := by decide +kernel
theorem dL_law_864 : decode cL_law 864 = .ok (.invokevirtual 128, 3) := by decide +kernel
theorem dL_law_867 : decode cL_law 867 = .ok (.if_icmp .eq 146, 3) := by decide +kernel
theorem dL_law_870 : decode cL_law 870 = .ok (.iconst 0, 1) := by decide +kernel
theorem dL_law_871 : decode cL_law 871 = .ok (.ireturn, 1) := by decide +kernel
theorem dL_law_872 : decode cL_law 872 = .ok (.aload_n 1, 1) := by decide +kernel
theorem dL_law_873 : decode cL_law 873 = .ok (.aload_n 0, 1) := by decide +kernel
theorem dL_law_874 : decode cL_law 874 = .ok (.iload_n 3, 1) := by decide +kernel
theorem dL_law_875 : decode cL_law 875 = .ok (.iconst 1, 1) := by decide +kernel
theorem dL_law_876 : decode cL_law 876 = .ok (.iadd, 1) := by decide +kernel
theorem dL_law_877 : decode cL_law 877 = .ok (.iaload, 1) := by decide +kernel
theorem dL_law_878 : decode cL_law 878 = .ok (.invokevirtual 129, 3) := by decide +kernel
theorem dL_law_881 : decode cL_law 881 = .ok (.aload_n 2, 1) := by decide +kernel
theorem dL_law_882 : decode cL_law 882 = .ok (.aload_n 0, 1) := by decide +kernel
theorem dL_law_883 : decode cL_law 883 = .ok (.iload_n 3, 1) := by decide +kernel
theorem dL_law_884 : decode cL_law 884 = .ok (.iconst 1, 1) := by decide +kernel
theorem dL_law_885 : decode cL_law 885 = .ok (.iadd, 1) := by decide +kernel
theorem dL_law_886 : decode cL_law 886 = .ok (.iaload, 1) := by decide +kernel
theorem dL_law_887 : decode cL_law 887 = .ok (.invokevirtual 132, 3) := by decide +kernel
theorem dL_law_890 : decode cL_law 890 = .ok (.if_icmp .eq 123, 3) := by decide +kernel
theorem dL_law_893 : decode cL_law 893 = .ok (.iconst 0, 1) := by decide +kernel
theorem dL_law_894 : decode cL_law 894 = .ok (.ireturn, 1) := by decide +kernel
theorem dL_law_895 : decode cL_law 895 = .ok (.aload_n 1, 1) := by decide +kernel
theorem dL_law_896 : decode cL_law 896 = .ok (.aload_n 0, 1) := by decide +kernel
theorem dL_law_897 : decode cL_law 897 = .ok (.iload_n 3, 1) := by decide +kernel
theorem dL_law_898 : decode cL_law 898 = .ok (.iconst 1, 1) := by decide +kernel
theorem dL_law_899 : decode cL_law 899 = .ok (.iadd, 1) := by decide +kernel
theorem dL_law_900 : decode cL_law 900 = .ok (.iaload, 1) := by decide +kernel
theorem dL_law_901 : decode cL_law 901 = .ok (.invokevirtual 133, 3) := by decide +kernel
theorem dL_law_904 : decode cL_law 904 = .ok (.aload_n 2, 1) := by decide +kernel
theorem dL_law_905 : decode cL_law 905 = .ok (.aload_n 0, 1) := by decide +kernel
theorem dL_law_906 : decode cL_law 906 = .ok (.iload_n 3, 1) := by decide +kernel
theorem dL_law_907 : decode cL_law 907 = .ok (.iconst 1, 1) := by decide +kernel
theorem dL_law_908 : decode cL_law 908 = .ok (.iadd, 1) := by decide +kernel
theorem dL_law_909 : decode cL_law 909 = .ok (.iaload, 1) := by decide +kernel
theorem dL_law_910 : decode cL_law 910 = .ok (.invokevirtual 136, 3) := by decide +kernel
theorem dL_law_913 : decode cL_law 913 = .ok (.if_icmp .eq 100, 3) := by decide +kernel
theorem dL_law_916 : decode cL_law 916 = .ok (.iconst 0, 1) := by decide +kernel
theorem dL_law_917 : decode cL_law 917 = .ok (.ireturn, 1) := by decide +kernel
theorem dL_law_918 : decode cL_law 918 = .ok (.aload_n 1, 1) := by decide +kernel
theorem dL_law_919 : decode cL_law 919 = .ok (.invokevirtual 137, 3) := by decide +kernel
theorem dL_law_922 : decode cL_law 922 = .ok (.aload_n 2, 1) := by decide +kernel
theorem dL_law_923 : decode cL_law 923 = .ok (.invokevirtual 140, 3) := by decide +kernel
theorem dL_law_926 : decode cL_law 926 = .ok (.if_icmp .eq 87, 3) := by decide +kernel
theorem dL_law_929 : decode cL_law 929 = .ok (.iconst 0, 1) := by decide +kernel
theorem dL_law_930 : decode cL_law 930 = .ok (.ireturn, 1) := by decide +kernel
theorem dL_law_931 : decode cL_law 931 = .ok (.aload_n 1, 1) := by decide +kernel
theorem dL_law_932 : decode cL_law 932 = .ok (.invokevirtual 141, 3) := by decide +kernel
theorem dL_law_935 : decode cL_law 935 = .ok (.aload_n 2, 1) := by decide +kernel
theorem dL_law_936 : decode cL_law 936 = .ok (.invokevirtual 144, 3) := by decide +kernel
theorem dL_law_939 : decode cL_law 939 = .ok (.if_icmp .eq 74, 3) := by decide +kernel
theorem dL_law_942 : decode cL_law 942 = .ok (.iconst 0, 1) := by decide +kernel
theorem dL_law_943 : decode cL_law 943 = .ok (.ireturn, 1) := by decide +kernel
theorem dL_law_944 : decode cL_law 944 = .ok (.aload_n 1, 1) := by decide +kernel
theorem dL_law_945 : decode cL_law 945 = .ok (.aload_n 0, 1) := by decide +kernel
theorem dL_law_946 : decode cL_law 946 = .ok (.iload_n 3, 1) := by decide +kernel
theorem dL_law_947 : decode cL_law 947 = .ok (.iconst 1, 1) := by decide +kernel
theorem dL_law_948 : decode cL_law 948 = .ok (.iadd, 1) := by decide +kernel
theorem dL_law_949 : decode cL_law 949 = .ok (.iaload, 1) := by decide +kernel
theorem dL_law_950 : decode cL_law 950 = .ok (.invokevirtual 145, 3) := by decide +kernel
theorem dL_law_953 : decode cL_law 953 = .ok (.aload_n 2, 1) := by decide +kernel
theorem dL_law_954 : decode cL_law 954 = .ok (.aload_n 0, 1) := by decide +kernel
theorem dL_law_955 : decode cL_law 955 = .ok (.iload_n 3, 1) := by decide +kernel
theorem dL_law_956 : decode cL_law 956 = .ok (.iconst 1, 1) := by decide +kernel
theorem dL_law_957 : decode cL_law 957 = .ok (.iadd, 1) := by decide +kernel
theorem dL_law_958 : decode cL_law 958 = .ok (.iaload, 1) := by decide +kernel
theorem dL_law_959 : decode cL_law 959 = .ok (.invokevirtual 148, 3) := by decide +kernel
theorem dL_law_962 : decode cL_law 962 = .ok (.if_icmp .eq 51, 3) := by decide +kernel
theorem dL_law_965 : decode cL_law 965 = .ok (.iconst 0, 1) := by decide +kernel
theorem dL_law_966 : decode cL_law 966 = .ok (.ireturn, 1) := by decide +kernel
theorem dL_law_967 : decode cL_law 967 = .ok (.aload_n 1, 1) := by decide +kernel
theorem dL_law_968 : decode cL_law 968 = .ok (.aload_n 0, 1) := by decide +kernel
theorem dL_law_969 : decode cL_law 969 = .ok (.iload_n 3, 1) := by decide +kernel
theorem dL_law_970 : decode cL_law 970 = .ok (.iconst 1, 1) := by decide +kernel
theorem dL_law_971 : decode cL_law 971 = .ok (.iadd, 1) := by decide +kernel
theorem dL_law_972 : decode cL_law 972 = .ok (.iaload, 1) := by decide +kernel
theorem dL_law_973 : decode cL_law 973 = .ok (.invokevirtual 149, 3) := by decide +kernel
theorem dL_law_976 : decode cL_law 976 = .ok (.aload_n 2, 1) := by decide +kernel
theorem dL_law_977 : decode cL_law 977 = .ok (.aload_n 0, 1) := by decide +kernel
theorem dL_law_978 : decode cL_law 978 = .ok (.iload_n 3, 1) := by decide +kernel
theorem dL_law_979 : decode cL_law 979 = .ok (.iconst 1, 1) := by decide +kernel
theorem dL_law_980 : decode cL_law 980 = .ok (.iadd, 1) := by decide +kernel
theorem dL_law_981 : decode cL_law 981 = .ok (.iaload, 1) := by decide +kernel
theorem dL_law_982 : decode cL_law 982 = .ok (.invokevirtual 152, 3) := by decide +kernel
theorem dL_law_985 : decode cL_law 985 = .ok (.if_icmp .eq 28, 3) := by decide +kernel
theorem dL_law_988 : decode cL_law 988 = .ok (.iconst 0, 1) := by decide +kernel
theorem dL_law_989 : decode cL_law 989 = .ok (.ireturn, 1) := by decide +kernel
theorem dL_law_990 : decode cL_law 990 = .ok (.aload_n 1, 1) := by decide +kernel
theorem dL_law_991 : decode cL_law 991 = .ok (.aload_n 0, 1) := by decide +kernel
theorem dL_law_992 : decode cL_law 992 = .ok (.iload_n 3, 1) := by decide +kernel
theorem dL_law_993 : decode cL_law 993 = .ok (.iconst 1, 1) := by decide +kernel
theorem dL_law_994 : decode cL_law 994 = .ok (.iadd, 1) := by decide +kernel
theorem dL_law_995 : decode cL_law 995 = .ok (.iaload, 1) := by decide +kernel
theorem dL_law_996 : decode cL_law 996 = .ok (.invokevirtual 153, 3) := by decide +kernel
theorem dL_law_999 : decode cL_law 999 = .ok (.aload_n 2, 1) := by decide +kernel
theorem dL_law_1000 : decode cL_law 1000 = .ok (.aload_n 0, 1) := by decide +kernel
theorem dL_law_1001 : decode cL_law 1001 = .ok (.iload_n 3, 1) := by decide +kernel
theorem dL_law_1002 : decode cL_law 1002 = .ok (.iconst 1, 1) := by decide +kernel
theorem dL_law_1003 : decode cL_law 1003 = .ok (.iadd, 1) := by decide +kernel
theorem dL_law_1004 : decode cL_law 1004 = .ok (.iaload, 1) := by decide +kernel
theorem dL_law_1005 : decode cL_law 1005 = .ok (.invokevirtual 156, 3) := by decide +kernel
theorem dL_law_1008 : decode cL_law 1008 = .ok (.if_icmp .eq 5, 3) := by decide +kernel
theorem dL_law_1011 : decode cL_law 1011 = .ok (.iconst 0, 1) := by decide +kernel
theorem dL_law_1012 : decode cL_law 1012 = .ok (.ireturn, 1) := by decide +kernel
theorem dL_law_1013 : decode cL_law 1013 = .ok (.iinc 3 4, 3) := by decide +kernel
theorem dL_law_1016 : decode cL_law 1016 = .ok (.goto (-998), 3) := by decide +kernel
theorem dL_law_1019 : decode cL_law 1019 = .ok (.iconst 1, 1) := by decide +kernel
theorem dL_law_1020 : decode cL_law 1020 = .ok (.ireturn, 1) := by decide +kernel
end
section
/-- the tables' words that stay -/
def tb_G : List Cond := lw_tbl.filter goodWord
theorem tb_in {w : Cond} (h : w ∈ lw_tbl) (hg : goodWord w = true) : w ∈ tb_G := List.mem_filter.mpr ⟨h, hg⟩
theorem tb_good : ∀ w ∈ tb_G, (w.onTables && w.keeps) = true ∨ ∃ ty, w = .arrayClass ty := fun w h => good_of_word (List.mem_filter.mp h).2
theorem tb_sub : ∀ w ∈ tb_G, w ∈ lw_tbl := fun w h => (List.mem_filter.mp h).1
theorem tq_0 : (.selects "PullSaw$Reader" ⟨"PullSaw$Reader", "skipBlanks", "()V"⟩ ⟨"PullSaw$Reader", "skipBlanks", "()V"⟩ : Cond) ∈ tb_G := tb_in (List.mem_of_getElem? (i := 0) (by decide +kernel)) rfl
theorem tq_1 : (.selects "PullSaw$Reader" ⟨"PullSaw$Reader", "readClause", "()V"⟩ ⟨"PullSaw$Reader", "readClause", "()V"⟩ : Cond) ∈ tb_G := tb_in (List.mem_of_getElem? (i := 1) (by decide +kernel)) rfl
theorem tq_2 : (.selects "PullSaw$Reader" ⟨"PullSaw$Reader", "faultOfWord", "(I)I"⟩ ⟨"PullSaw$Reader", "faultOfWord", "(I)I"⟩ : Cond) ∈ tb_G := tb_in (List.mem_of_getElem? (i := 2) (by decide +kernel)) rfl
theorem tq_3 : (.selects "PullSaw$Reader" ⟨"PullSaw$Reader", "markFault", "(II)V"⟩ ⟨"PullSaw$Reader", "markFault", "(II)V"⟩ : Cond) ∈ tb_G := tb_in (List.mem_of_getElem? (i := 3) (by decide +kernel)) rfl
theorem tq_4 : (.selects "PullSaw$Reader" ⟨"PullSaw$Reader", "readLayers", "()V"⟩ ⟨"PullSaw$Reader", "readLayers", "()V"⟩ : Cond) ∈ tb_G := tb_in (List.mem_of_getElem? (i := 4) (by decide +kernel)) rfl
theorem tq_5 : (.selects "PullSaw$Reader" ⟨"PullSaw$Reader", "readNumber", "(II)I"⟩ ⟨"PullSaw$Reader", "readNumber", "(II)I"⟩ : Cond) ∈ tb_G := tb_in (List.mem_of_getElem? (i := 5) (by decide +kernel)) rfl
theorem tq_6 : (.selects "PullSaw$Reader" ⟨"PullSaw$Reader", "readEnd", "()V"⟩ ⟨"PullSaw$Reader", "readEnd", "()V"⟩ : Cond) ∈ tb_G := tb_in (List.mem_of_getElem? (i := 6) (by decide +kernel)) rfl
theorem tq_7 : (.selects "PullSaw$Reader" ⟨"PullSaw$Reader", "readPerson", "()V"⟩ ⟨"PullSaw$Reader", "readPerson", "()V"⟩ : Cond) ∈ tb_G := tb_in (List.mem_of_getElem? (i := 7) (by decide +kernel)) rfl
theorem tq_8 : (.selects "PullSaw$Reader" ⟨"PullSaw$Reader", "readSaw", "()V"⟩ ⟨"PullSaw$Reader", "readSaw", "()V"⟩ : Cond) ∈ tb_G := tb_in (List.mem_of_getElem? (i := 8) (by decide +kernel)) rfl
theorem tq_9 : (.selects "PullSaw" ⟨"PullSaw", "refusalOfTwo", "(II)I"⟩ ⟨"PullSaw", "refusalOfTwo", "(II)I"⟩ : Cond) ∈ tb_G := tb_in (List.mem_of_getElem? (i := 9) (by decide +kernel)) rfl
theorem tq_10 : (.selects "PullSaw" ⟨"PullSaw", "refusalOfSawing", "(I)I"⟩ ⟨"PullSaw", "refusalOfSawing", "(I)I"⟩ : Cond) ∈ tb_G := tb_in (List.mem_of_getElem? (i := 10) (by decide +kernel)) rfl
theorem tq_11 : (.selects "PullSaw$Past" ⟨"PullSaw$Past", "placeAt", "(I)LPullSaw$Work;"⟩ ⟨"PullSaw$Past", "placeAt", "(I)LPullSaw$Work;"⟩ : Cond) ∈ tb_G := tb_in (List.mem_of_getElem? (i := 11) (by decide +kernel)) rfl
theorem tq_12 : (.selects "PullSaw$Work" ⟨"PullSaw$Work", "pullOf", "(LPullSaw$Yard;II)I"⟩ ⟨"PullSaw$Work", "pullOf", "(LPullSaw$Yard;II)I"⟩ : Cond) ∈ tb_G := tb_in (List.mem_of_getElem? (i := 12) (by decide +kernel)) rfl
theorem tq_13 : (.selects "PullSaw$Work" ⟨"PullSaw$Work", "cutBy", "(LPullSaw$Yard;I)I"⟩ ⟨"PullSaw$Work", "cutBy", "(LPullSaw$Yard;I)I"⟩ : Cond) ∈ tb_G := tb_in (List.mem_of_getElem? (i := 13) (by decide +kernel)) rfl
theorem tq_14 : (.selects "PullSaw$Work" ⟨"PullSaw$Work", "tire", "(II)V"⟩ ⟨"PullSaw$Work", "tire", "(II)V"⟩ : Cond) ∈ tb_G := tb_in (List.mem_of_getElem? (i := 14) (by decide +kernel)) rfl
theorem tq_15 : (.selects "PullSaw$Work" ⟨"PullSaw$Work", "feel", "(III)V"⟩ ⟨"PullSaw$Work", "feel", "(III)V"⟩ : Cond) ∈ tb_G := tb_in (List.mem_of_getElem? (i := 15) (by decide +kernel)) rfl
theorem tq_16 : (.selects "PullSaw" ⟨"PullSaw", "changeRow", "([III)I"⟩ ⟨"PullSaw", "changeRow", "([III)I"⟩ : Cond) ∈ tb_G := tb_in (List.mem_of_getElem? (i := 16) (by decide +kernel)) rfl
theorem tq_17 : (.selects "PullSaw" ⟨"PullSaw", "driftOnce", "()V"⟩ ⟨"PullSaw", "driftOnce", "()V"⟩ : Cond) ∈ tb_G := tb_in (List.mem_of_getElem? (i := 17) (by decide +kernel)) rfl
theorem tq_18 : (.selects "PullSaw" ⟨"PullSaw", "drawEighth", "()I"⟩ ⟨"PullSaw", "drawEighth", "()I"⟩ : Cond) ∈ tb_G := tb_in (List.mem_of_getElem? (i := 18) (by decide +kernel)) rfl
theorem tq_19 : (.selects "PullSaw$Trial" ⟨"PullSaw$Trial", "strokesThrough", "(LPullSaw$Yard;LPullSaw$Work;I)I"⟩ ⟨"PullSaw$Trial", "strokesThrough", "(LPullSaw$Yard;LPullSaw$Work;I)I"⟩ : Cond) ∈ tb_G := tb_in (List.mem_of_getElem? (i := 19) (by decide +kernel)) rfl
theorem tq_20 : (.selects "PullSaw$Trial" ⟨"PullSaw$Trial", "isNoFresher", "(LPullSaw$Work;)Z"⟩ ⟨"PullSaw$Trial", "isNoFresher", "(LPullSaw$Work;)Z"⟩ : Cond) ∈ tb_G := tb_in (List.mem_of_getElem? (i := 20) (by decide +kernel)) rfl
theorem tq_21 : (.selects "PullSaw$Trial" ⟨"PullSaw$Trial", "rememberPair", "(LPullSaw$Work;)V"⟩ ⟨"PullSaw$Trial", "rememberPair", "(LPullSaw$Work;)V"⟩ : Cond) ∈ tb_G := tb_in (List.mem_of_getElem? (i := 21) (by decide +kernel)) rfl
theorem tq_22 : (.selects "PullSaw$Trial" ⟨"PullSaw$Trial", "begin", "(LPullSaw$Yard;LPullSaw$Work;II)V"⟩ ⟨"PullSaw$Trial", "begin", "(LPullSaw$Yard;LPullSaw$Work;II)V"⟩ : Cond) ∈ tb_G := tb_in (List.mem_of_getElem? (i := 22) (by decide +kernel)) rfl
theorem tq_23 : (.selects "PullSaw$Balance" ⟨"PullSaw$Balance", "stepBack", "()V"⟩ ⟨"PullSaw$Balance", "stepBack", "()V"⟩ : Cond) ∈ tb_G := tb_in (List.mem_of_getElem? (i := 23) (by decide +kernel)) rfl
theorem tq_24 : (.selects "PullSaw$Balance" ⟨"PullSaw$Balance", "weighAhead", "(II)V"⟩ ⟨"PullSaw$Balance", "weighAhead", "(II)V"⟩ : Cond) ∈ tb_G := tb_in (List.mem_of_getElem? (i := 24) (by decide +kernel)) rfl
theorem tq_25 : (.selects "PullSaw$Balance" ⟨"PullSaw$Balance", "costOfStay", "(II)I"⟩ ⟨"PullSaw$Balance", "costOfStay", "(II)I"⟩ : Cond) ∈ tb_G := tb_in (List.mem_of_getElem? (i := 25) (by decide +kernel)) rfl
theorem tq_26 : (.selects "PullSaw$Balance" ⟨"PullSaw$Balance", "costBehind", "(II)I"⟩ ⟨"PullSaw$Balance", "costBehind", "(II)I"⟩ : Cond) ∈ tb_G := tb_in (List.mem_of_getElem? (i := 26) (by decide +kernel)) rfl
theorem tq_27 : (.selects "PullSaw$Balance" ⟨"PullSaw$Balance", "costOfChange", "(II)I"⟩ ⟨"PullSaw$Balance", "costOfChange", "(II)I"⟩ : Cond) ∈ tb_G := tb_in (List.mem_of_getElem? (i := 27) (by decide +kernel)) rfl
theorem tq_28 : (.selects "PullSaw$Trial" ⟨"PullSaw$Trial", "depthBehind", "(LPullSaw$Yard;LPullSaw$Work;II)I"⟩ ⟨"PullSaw$Trial", "depthBehind", "(LPullSaw$Yard;LPullSaw$Work;II)I"⟩ : Cond) ∈ tb_G := tb_in (List.mem_of_getElem? (i := 28) (by decide +kernel)) rfl
theorem tq_29 : (.selects "PullSaw$Trial" ⟨"PullSaw$Trial", "firstWrong", "(LPullSaw$Yard;LPullSaw$Sheet;)I"⟩ ⟨"PullSaw$Trial", "firstWrong", "(LPullSaw$Yard;LPullSaw$Sheet;)I"⟩ : Cond) ∈ tb_G := tb_in (List.mem_of_getElem? (i := 29) (by decide +kernel)) rfl
theorem tq_30 : (.selects "PullSaw$Trial" ⟨"PullSaw$Trial", "fits", "(LPullSaw$Yard;LPullSaw$Work;IILPullSaw$Sheet;)Z"⟩ ⟨"PullSaw$Trial", "fits", "(LPullSaw$Yard;LPullSaw$Work;IILPullSaw$Sheet;)Z"⟩ : Cond) ∈ tb_G := tb_in (List.mem_of_getElem? (i := 30) (by decide +kernel)) rfl
theorem tq_31 : (.selects "PullSawModel" ⟨"PullSawModel", "here", "()I"⟩ ⟨"PullSawModel", "here", "()I"⟩ : Cond) ∈ tb_G := tb_in (List.mem_of_getElem? (i := 31) (by decide +kernel)) rfl
theorem tq_32 : (.selects "PullSawModel" ⟨"PullSawModel", "takeClause", "()V"⟩ ⟨"PullSawModel", "takeClause", "()V"⟩ : Cond) ∈ tb_G := tb_in (List.mem_of_getElem? (i := 32) (by decide +kernel)) rfl
theorem tq_33 : (.selects "PullSawModel" ⟨"PullSawModel", "want", "(ZII)Z"⟩ ⟨"PullSawModel", "want", "(ZII)Z"⟩ : Cond) ∈ tb_G := tb_in (List.mem_of_getElem? (i := 33) (by decide +kernel)) rfl
theorem tq_34 : (.selects "PullSawModel" ⟨"PullSawModel", "takeLog", "()V"⟩ ⟨"PullSawModel", "takeLog", "()V"⟩ : Cond) ∈ tb_G := tb_in (List.mem_of_getElem? (i := 34) (by decide +kernel)) rfl
theorem tq_35 : (.selects "PullSawModel" ⟨"PullSawModel", "takeNumber", "(II)I"⟩ ⟨"PullSawModel", "takeNumber", "(II)I"⟩ : Cond) ∈ tb_G := tb_in (List.mem_of_getElem? (i := 35) (by decide +kernel)) rfl
theorem tq_36 : (.selects "PullSawModel" ⟨"PullSawModel", "takePerson", "()V"⟩ ⟨"PullSawModel", "takePerson", "()V"⟩ : Cond) ∈ tb_G := tb_in (List.mem_of_getElem? (i := 36) (by decide +kernel)) rfl
theorem tq_37 : (.selects "PullSawModel" ⟨"PullSawModel", "take", "()V"⟩ ⟨"PullSawModel", "take", "()V"⟩ : Cond) ∈ tb_G := tb_in (List.mem_of_getElem? (i := 37) (by decide +kernel)) rfl
theorem tq_38 : (.selects "PullSawModel" ⟨"PullSawModel", "begin", "(III)V"⟩ ⟨"PullSawModel", "begin", "(III)V"⟩ : Cond) ∈ tb_G := tb_in (List.mem_of_getElem? (i := 38) (by decide +kernel)) rfl
theorem tq_39 : (.selects "PullSawModel" ⟨"PullSawModel", "isThrough", "(I)Z"⟩ ⟨"PullSawModel", "isThrough", "(I)Z"⟩ : Cond) ∈ tb_G := tb_in (List.mem_of_getElem? (i := 39) (by decide +kernel)) rfl
theorem tq_40 : (.selects "PullSawModel" ⟨"PullSawModel", "isPerson", "(I)Z"⟩ ⟨"PullSawModel", "isPerson", "(I)Z"⟩ : Cond) ∈ tb_G := tb_in (List.mem_of_getElem? (i := 40) (by decide +kernel)) rfl
theorem tq_41 : (.selects "PullSawModel" ⟨"PullSawModel", "isPair", "()Z"⟩ ⟨"PullSawModel", "isPair", "()Z"⟩ : Cond) ∈ tb_G := tb_in (List.mem_of_getElem? (i := 41) (by decide +kernel)) rfl
theorem tq_42 : (.selects "PullSawModel" ⟨"PullSawModel", "remember", "()V"⟩ ⟨"PullSawModel", "remember", "()V"⟩ : Cond) ∈ tb_G := tb_in (List.mem_of_getElem? (i := 42) (by decide +kernel)) rfl
theorem tq_43 : (.selects "PullSawModel" ⟨"PullSawModel", "copy", "(II)V"⟩ ⟨"PullSawModel", "copy", "(II)V"⟩ : Cond) ∈ tb_G := tb_in (List.mem_of_getElem? (i := 43) (by decide +kernel)) rfl
theorem tq_44 : (.selects "PullSawModel" ⟨"PullSawModel", "pull", "(I)I"⟩ ⟨"PullSawModel", "pull", "(I)I"⟩ : Cond) ∈ tb_G := tb_in (List.mem_of_getElem? (i := 44) (by decide +kernel)) rfl
theorem tq_45 : (.selects "PullSawModel" ⟨"PullSawModel", "pullOf", "(III)I"⟩ ⟨"PullSawModel", "pullOf", "(III)I"⟩ : Cond) ∈ tb_G := tb_in (List.mem_of_getElem? (i := 45) (by decide +kernel)) rfl
theorem tq_46 : (.selects "PullSawModel" ⟨"PullSawModel", "tire", "(II)V"⟩ ⟨"PullSawModel", "tire", "(II)V"⟩ : Cond) ∈ tb_G := tb_in (List.mem_of_getElem? (i := 46) (by decide +kernel)) rfl
theorem tq_47 : (.selects "PullSawModel" ⟨"PullSawModel", "feel", "(III)V"⟩ ⟨"PullSawModel", "feel", "(III)V"⟩ : Cond) ∈ tb_G := tb_in (List.mem_of_getElem? (i := 47) (by decide +kernel)) rfl
theorem tq_48 : (.selects "PullSawModel" ⟨"PullSawModel", "relax", "(II)V"⟩ ⟨"PullSawModel", "relax", "(II)V"⟩ : Cond) ∈ tb_G := tb_in (List.mem_of_getElem? (i := 48) (by decide +kernel)) rfl
theorem tq_49 : (.selects "PullSawModel" ⟨"PullSawModel", "become", "(II)I"⟩ ⟨"PullSawModel", "become", "(II)I"⟩ : Cond) ∈ tb_G := tb_in (List.mem_of_getElem? (i := 49) (by decide +kernel)) rfl
theorem tq_50 : (.selects "PullSawModel" ⟨"PullSawModel", "draw", "(I)I"⟩ ⟨"PullSawModel", "draw", "(I)I"⟩ : Cond) ∈ tb_G := tb_in (List.mem_of_getElem? (i := 50) (by decide +kernel)) rfl
theorem tq_51 : (.selects "PullSawModel" ⟨"PullSawModel", "goOnNow", "()I"⟩ ⟨"PullSawModel", "goOnNow", "()I"⟩ : Cond) ∈ tb_G := tb_in (List.mem_of_getElem? (i := 51) (by decide +kernel)) rfl
theorem tq_52 : (.selects "PullSawModel" ⟨"PullSawModel", "goOn", "(I)I"⟩ ⟨"PullSawModel", "goOn", "(I)I"⟩ : Cond) ∈ tb_G := tb_in (List.mem_of_getElem? (i := 52) (by decide +kernel)) rfl
theorem tq_53 : (.selects "PullSawModel" ⟨"PullSawModel", "refusedTwo", "(II)I"⟩ ⟨"PullSawModel", "refusedTwo", "(II)I"⟩ : Cond) ∈ tb_G := tb_in (List.mem_of_getElem? (i := 53) (by decide +kernel)) rfl
theorem tq_54 : (.selects "PullSawModel" ⟨"PullSawModel", "freshOf", "(II)I"⟩ ⟨"PullSawModel", "freshOf", "(II)I"⟩ : Cond) ∈ tb_G := tb_in (List.mem_of_getElem? (i := 54) (by decide +kernel)) rfl
theorem tq_55 : (.selects "PullSawModel" ⟨"PullSawModel", "beginFresh", "(II)V"⟩ ⟨"PullSawModel", "beginFresh", "(II)V"⟩ : Cond) ∈ tb_G := tb_in (List.mem_of_getElem? (i := 55) (by decide +kernel)) rfl
theorem tq_56 : (.selects "PullSawModel" ⟨"PullSawModel", "quarrels", "(I)Z"⟩ ⟨"PullSawModel", "quarrels", "(I)Z"⟩ : Cond) ∈ tb_G := tb_in (List.mem_of_getElem? (i := 56) (by decide +kernel)) rfl
theorem tq_57 : (.selects "PullSawModel" ⟨"PullSawModel", "lay", "(III)V"⟩ ⟨"PullSawModel", "lay", "(III)V"⟩ : Cond) ∈ tb_G := tb_in (List.mem_of_getElem? (i := 57) (by decide +kernel)) rfl
theorem tq_58 : (.selects "PullSawModel" ⟨"PullSawModel", "depthBy", "(II)I"⟩ ⟨"PullSawModel", "depthBy", "(II)I"⟩ : Cond) ∈ tb_G := tb_in (List.mem_of_getElem? (i := 58) (by decide +kernel)) rfl
theorem tq_59 : (.selects "PullSawModel" ⟨"PullSawModel", "isAsSeen", "()Z"⟩ ⟨"PullSawModel", "isAsSeen", "()Z"⟩ : Cond) ∈ tb_G := tb_in (List.mem_of_getElem? (i := 59) (by decide +kernel)) rfl
theorem tq_60 : (.initialized "PullSawLaw" : Cond) ∈ tb_G := tb_in (List.mem_of_getElem? (i := 60) (by decide +kernel)) rfl
theorem tq_61 : (.initialized "PullSaw" : Cond) ∈ tb_G := tb_in (List.mem_of_getElem? (i := 61) (by decide +kernel)) rfl
theorem tq_62 : (.initialized "PullSaw$Yard" : Cond) ∈ tb_G := tb_in (List.mem_of_getElem? (i := 62) (by decide +kernel)) rfl
theorem tq_63 : (.initialized "PullSaw$Reader" : Cond) ∈ tb_G := tb_in (List.mem_of_getElem? (i := 63) (by decide +kernel)) rfl
theorem tq_64 : (.initialized "PullSaw$Sheet" : Cond) ∈ tb_G := tb_in (List.mem_of_getElem? (i := 64) (by decide +kernel)) rfl
theorem tq_65 : (.initialized "java/lang/Math" : Cond) ∈ tb_G := tb_in (List.mem_of_getElem? (i := 65) (by decide +kernel)) rfl
theorem tq_66 : (.initialized "PullSaw$Work" : Cond) ∈ tb_G := tb_in (List.mem_of_getElem? (i := 66) (by decide +kernel)) rfl
theorem tq_67 : (.initialized "PullSaw$Past" : Cond) ∈ tb_G := tb_in (List.mem_of_getElem? (i := 67) (by decide +kernel)) rfl
theorem tq_68 : (.initialized "PullSaw$Trial" : Cond) ∈ tb_G := tb_in (List.mem_of_getElem? (i := 68) (by decide +kernel)) rfl
theorem tq_69 : (.initialized "PullSaw$Balance" : Cond) ∈ tb_G := tb_in (List.mem_of_getElem? (i := 69) (by decide +kernel)) rfl
theorem tq_70 : (.initialized "PullSaw$Image" : Cond) ∈ tb_G := tb_in (List.mem_of_getElem? (i := 70) (by decide +kernel)) rfl
theorem tq_71 : (.initialized "PullSawModel" : Cond) ∈ tb_G := tb_in (List.mem_of_getElem? (i := 71) (by decide +kernel)) rfl
theorem tq_72 : (.initialized "PullSaw$Row" : Cond) ∈ tb_G := tb_in (List.mem_of_getElem? (i := 72) (by decide +kernel)) rfl
theorem tq_73 : (.initialized "java/lang/Integer" : Cond) ∈ tb_G := tb_in (List.mem_of_getElem? (i := 73) (by decide +kernel)) rfl
theorem tq_74 : (.classLink "PullSawLaw" 7 "PullSaw" : Cond) ∈ tb_G := tb_in (List.mem_of_getElem? (i := 74) (by decide +kernel)) rfl
theorem tq_75 : (.instantiable "PullSaw" 11 : Cond) ∈ tb_G := tb_in (List.mem_of_getElem? (i := 75) (by decide +kernel)) rfl
theorem tq_76 : (.methodLink "PullSawLaw" 9 ⟨"PullSaw", "<init>", "()V"⟩ : Cond) ∈ tb_G := tb_in (List.mem_of_getElem? (i := 76) (by decide +kernel)) rfl
theorem tq_77 : (.instanceMethod ⟨"PullSaw", "<init>", "()V"⟩ : Cond) ∈ tb_G := tb_in (List.mem_of_getElem? (i := 77) (by decide +kernel)) rfl
set_option maxRecDepth 100000 in
theorem tq_78 : (.code ⟨"PullSaw", "<init>", "()V"⟩ prog_1_method_1_code 1 none : Cond) ∈ tb_G := tb_in (List.mem_of_getElem? (i := 78) rfl) rfl
theorem tq_79 : (.methodLink "PullSaw" 1 ⟨"java/lang/Object", "<init>", "()V"⟩ : Cond) ∈ tb_G := tb_in (List.mem_of_getElem? (i := 79) (by decide +kernel)) rfl
theorem tq_80 : (.instanceMethod ⟨"java/lang/Object", "<init>", "()V"⟩ : Cond) ∈ tb_G := tb_in (List.mem_of_getElem? (i := 80) (by decide +kernel)) rfl
set_option maxRecDepth 100000 in
theorem tq_81 : (.code ⟨"java/lang/Object", "<init>", "()V"⟩ object_method_1_code 1 none : Cond) ∈ tb_G := tb_in (List.mem_of_getElem? (i := 81) rfl) rfl
theorem tq_82 : (.classLink "PullSaw" 7 "PullSaw$Yard" : Cond) ∈ tb_G := tb_in (List.mem_of_getElem? (i := 82) (by decide +kernel)) rfl
theorem tq_83 : (.instantiable "PullSaw$Yard" 12 : Cond) ∈ tb_G := tb_in (List.mem_of_getElem? (i := 83) (by decide +kernel)) rfl
theorem tq_85 : (.instanceMethod ⟨"PullSaw$Yard", "<init>", "()V"⟩ : Cond) ∈ tb_G := tb_in (List.mem_of_getElem? (i := 85) (by decide +kernel)) rfl
set_option maxRecDepth 100000 in
theorem tq_86 : (.code ⟨"PullSaw$Yard", "<init>", "()V"⟩ prog_10_method_1_code 1 none : Cond) ∈ tb_G := tb_in (List.mem_of_getElem? (i := 86) rfl) rfl
theorem tq_87 : (.methodLink "PullSaw$Yard" 3 ⟨"java/lang/Object", "<init>", "()V"⟩ : Cond) ∈ tb_G := tb_in (List.mem_of_getElem? (i := 87) (by decide +kernel)) rfl
theorem tq_88 : (.fieldLink "PullSaw$Yard" 43 "PullSaw$Yard" "layers" "I" : Cond) ∈ tb_G := tb_in (List.mem_of_getElem? (i := 88) (by decide +kernel)) rfl
theorem tq_89 : (.fieldLink "PullSaw" 110 "PullSaw$Yard" "layers" "I" : Cond) ∈ tb_G := tb_in (List.mem_of_getElem? (i := 89) (by decide +kernel)) rfl
theorem tq_90 : (.fieldLink "PullSaw$Reader" 87 "PullSaw$Yard" "layers" "I" : Cond) ∈ tb_G := tb_in (List.mem_of_getElem? (i := 90) (by decide +kernel)) rfl
theorem tq_91 : (.fieldLink "PullSaw$Work" 76 "PullSaw$Yard" "layers" "I" : Cond) ∈ tb_G := tb_in (List.mem_of_getElem? (i := 91) (by decide +kernel)) rfl
theorem tq_92 : (.fieldLink "PullSaw$Yard" 46 "PullSaw$Yard" "people" "I" : Cond) ∈ tb_G := tb_in (List.mem_of_getElem? (i := 92) (by decide +kernel)) rfl
theorem tq_93 : (.fieldLink "PullSaw$Reader" 90 "PullSaw$Yard" "people" "I" : Cond) ∈ tb_G := tb_in (List.mem_of_getElem? (i := 93) (by decide +kernel)) rfl
theorem tq_94 : (.fieldLink "PullSaw" 116 "PullSaw$Yard" "people" "I" : Cond) ∈ tb_G := tb_in (List.mem_of_getElem? (i := 94) (by decide +kernel)) rfl
theorem tq_95 : (.fieldLink "PullSaw$Trial" 119 "PullSaw$Yard" "people" "I" : Cond) ∈ tb_G := tb_in (List.mem_of_getElem? (i := 95) (by decide +kernel)) rfl
theorem tq_96 : (.fieldLink "PullSaw$Yard" 9 "PullSaw$Yard" "teeth" "I" : Cond) ∈ tb_G := tb_in (List.mem_of_getElem? (i := 96) (by decide +kernel)) rfl
theorem tq_97 : (.fieldLink "PullSaw$Work" 63 "PullSaw$Yard" "teeth" "I" : Cond) ∈ tb_G := tb_in (List.mem_of_getElem? (i := 97) (by decide +kernel)) rfl
theorem tq_98 : (.fieldLink "PullSaw$Reader" 118 "PullSaw$Yard" "teeth" "I" : Cond) ∈ tb_G := tb_in (List.mem_of_getElem? (i := 98) (by decide +kernel)) rfl
theorem tq_99 : (.fieldLink "PullSaw$Yard" 15 "PullSaw$Yard" "limit" "I" : Cond) ∈ tb_G := tb_in (List.mem_of_getElem? (i := 99) (by decide +kernel)) rfl
theorem tq_100 : (.fieldLink "PullSaw" 146 "PullSaw$Yard" "limit" "I" : Cond) ∈ tb_G := tb_in (List.mem_of_getElem? (i := 100) (by decide +kernel)) rfl
theorem tq_101 : (.fieldLink "PullSaw$Reader" 121 "PullSaw$Yard" "limit" "I" : Cond) ∈ tb_G := tb_in (List.mem_of_getElem? (i := 101) (by decide +kernel)) rfl
theorem tq_102 : (.fieldLink "PullSaw$Work" 134 "PullSaw$Yard" "limit" "I" : Cond) ∈ tb_G := tb_in (List.mem_of_getElem? (i := 102) (by decide +kernel)) rfl
theorem tq_103 : (.fieldLink "PullSaw$Yard" 18 "PullSaw$Yard" "resin" "I" : Cond) ∈ tb_G := tb_in (List.mem_of_getElem? (i := 103) (by decide +kernel)) rfl
theorem tq_104 : (.fieldLink "PullSaw" 149 "PullSaw$Yard" "resin" "I" : Cond) ∈ tb_G := tb_in (List.mem_of_getElem? (i := 104) (by decide +kernel)) rfl
theorem tq_105 : (.fieldLink "PullSaw$Reader" 124 "PullSaw$Yard" "resin" "I" : Cond) ∈ tb_G := tb_in (List.mem_of_getElem? (i := 105) (by decide +kernel)) rfl
theorem tq_106 : (.fieldLink "PullSaw$Work" 107 "PullSaw$Yard" "resin" "I" : Cond) ∈ tb_G := tb_in (List.mem_of_getElem? (i := 106) (by decide +kernel)) rfl
theorem tq_107 : (.fieldLink "PullSaw$Yard" 21 "PullSaw$Yard" "closes" "I" : Cond) ∈ tb_G := tb_in (List.mem_of_getElem? (i := 107) (by decide +kernel)) rfl
theorem tq_108 : (.fieldLink "PullSaw$Reader" 81 "PullSaw$Yard" "closes" "I" : Cond) ∈ tb_G := tb_in (List.mem_of_getElem? (i := 108) (by decide +kernel)) rfl
theorem tq_109 : (.fieldLink "PullSaw" 152 "PullSaw$Yard" "closes" "I" : Cond) ∈ tb_G := tb_in (List.mem_of_getElem? (i := 109) (by decide +kernel)) rfl
theorem tq_110 : (.fieldLink "PullSaw$Work" 131 "PullSaw$Yard" "closes" "I" : Cond) ∈ tb_G := tb_in (List.mem_of_getElem? (i := 110) (by decide +kernel)) rfl
theorem tq_111 : (.fieldLink "PullSaw$Yard" 24 "PullSaw$Yard" "woods" "[I" : Cond) ∈ tb_G := tb_in (List.mem_of_getElem? (i := 111) (by decide +kernel)) rfl
theorem tq_112 : (.fieldLink "PullSaw$Reader" 93 "PullSaw$Yard" "woods" "[I" : Cond) ∈ tb_G := tb_in (List.mem_of_getElem? (i := 112) (by decide +kernel)) rfl
theorem tq_113 : (.fieldLink "PullSaw" 161 "PullSaw$Yard" "woods" "[I" : Cond) ∈ tb_G := tb_in (List.mem_of_getElem? (i := 113) (by decide +kernel)) rfl
theorem tq_114 : (.fieldLink "PullSaw$Work" 137 "PullSaw$Yard" "woods" "[I" : Cond) ∈ tb_G := tb_in (List.mem_of_getElem? (i := 114) (by decide +kernel)) rfl
theorem tq_115 : (.fieldLink "PullSaw$Yard" 28 "PullSaw$Yard" "forces" "[I" : Cond) ∈ tb_G := tb_in (List.mem_of_getElem? (i := 115) (by decide +kernel)) rfl
theorem tq_116 : (.fieldLink "PullSaw$Work" 66 "PullSaw$Yard" "forces" "[I" : Cond) ∈ tb_G := tb_in (List.mem_of_getElem? (i := 116) (by decide +kernel)) rfl
theorem tq_117 : (.fieldLink "PullSaw$Trial" 37 "PullSaw$Yard" "forces" "[I" : Cond) ∈ tb_G := tb_in (List.mem_of_getElem? (i := 117) (by decide +kernel)) rfl
theorem tq_118 : (.fieldLink "PullSaw$Reader" 103 "PullSaw$Yard" "forces" "[I" : Cond) ∈ tb_G := tb_in (List.mem_of_getElem? (i := 118) (by decide +kernel)) rfl
theorem tq_119 : (.fieldLink "PullSaw" 174 "PullSaw$Yard" "forces" "[I" : Cond) ∈ tb_G := tb_in (List.mem_of_getElem? (i := 119) (by decide +kernel)) rfl
theorem tq_120 : (.fieldLink "PullSaw$Yard" 31 "PullSaw$Yard" "heights" "[I" : Cond) ∈ tb_G := tb_in (List.mem_of_getElem? (i := 120) (by decide +kernel)) rfl
theorem tq_121 : (.fieldLink "PullSaw$Reader" 106 "PullSaw$Yard" "heights" "[I" : Cond) ∈ tb_G := tb_in (List.mem_of_getElem? (i := 121) (by decide +kernel)) rfl
theorem tq_122 : (.fieldLink "PullSaw$Work" 83 "PullSaw$Yard" "heights" "[I" : Cond) ∈ tb_G := tb_in (List.mem_of_getElem? (i := 122) (by decide +kernel)) rfl
theorem tq_123 : (.fieldLink "PullSaw" 177 "PullSaw$Yard" "heights" "[I" : Cond) ∈ tb_G := tb_in (List.mem_of_getElem? (i := 123) (by decide +kernel)) rfl
theorem tq_124 : (.fieldLink "PullSaw$Yard" 34 "PullSaw$Yard" "tires" "[I" : Cond) ∈ tb_G := tb_in (List.mem_of_getElem? (i := 124) (by decide +kernel)) rfl
theorem tq_125 : (.fieldLink "PullSaw$Reader" 109 "PullSaw$Yard" "tires" "[I" : Cond) ∈ tb_G := tb_in (List.mem_of_getElem? (i := 125) (by decide +kernel)) rfl
theorem tq_126 : (.fieldLink "PullSaw" 180 "PullSaw$Yard" "tires" "[I" : Cond) ∈ tb_G := tb_in (List.mem_of_getElem? (i := 126) (by decide +kernel)) rfl
theorem tq_127 : (.fieldLink "PullSaw$Work" 114 "PullSaw$Yard" "tires" "[I" : Cond) ∈ tb_G := tb_in (List.mem_of_getElem? (i := 127) (by decide +kernel)) rfl
theorem tq_128 : (.fieldLink "PullSaw$Yard" 37 "PullSaw$Yard" "firstHabits" "[I" : Cond) ∈ tb_G := tb_in (List.mem_of_getElem? (i := 128) (by decide +kernel)) rfl
theorem tq_129 : (.fieldLink "PullSaw$Work" 69 "PullSaw$Yard" "firstHabits" "[I" : Cond) ∈ tb_G := tb_in (List.mem_of_getElem? (i := 129) (by decide +kernel)) rfl
theorem tq_130 : (.fieldLink "PullSaw$Reader" 112 "PullSaw$Yard" "firstHabits" "[I" : Cond) ∈ tb_G := tb_in (List.mem_of_getElem? (i := 130) (by decide +kernel)) rfl
theorem tq_131 : (.fieldLink "PullSaw$Yard" 40 "PullSaw$Yard" "bents" "[I" : Cond) ∈ tb_G := tb_in (List.mem_of_getElem? (i := 131) (by decide +kernel)) rfl
theorem tq_132 : (.fieldLink "PullSaw$Reader" 115 "PullSaw$Yard" "bents" "[I" : Cond) ∈ tb_G := tb_in (List.mem_of_getElem? (i := 132) (by decide +kernel)) rfl
theorem tq_133 : (.fieldLink "PullSaw" 186 "PullSaw$Yard" "bents" "[I" : Cond) ∈ tb_G := tb_in (List.mem_of_getElem? (i := 133) (by decide +kernel)) rfl
theorem tq_134 : (.fieldLink "PullSaw$Work" 117 "PullSaw$Yard" "bents" "[I" : Cond) ∈ tb_G := tb_in (List.mem_of_getElem? (i := 134) (by decide +kernel)) rfl
theorem tq_135 : (.lays "PullSaw$Yard" "PullSaw$Yard" "layers" "I" : Cond) ∈ tb_G := tb_in (List.mem_of_getElem? (i := 135) (by decide +kernel)) rfl
theorem tq_137 : (.lays "PullSaw$Yard" "PullSaw$Yard" "people" "I" : Cond) ∈ tb_G := tb_in (List.mem_of_getElem? (i := 137) (by decide +kernel)) rfl
theorem tq_139 : (.lays "PullSaw$Yard" "PullSaw$Yard" "teeth" "I" : Cond) ∈ tb_G := tb_in (List.mem_of_getElem? (i := 139) (by decide +kernel)) rfl
theorem tq_141 : (.lays "PullSaw$Yard" "PullSaw$Yard" "limit" "I" : Cond) ∈ tb_G := tb_in (List.mem_of_getElem? (i := 141) (by decide +kernel)) rfl
theorem tq_143 : (.lays "PullSaw$Yard" "PullSaw$Yard" "resin" "I" : Cond) ∈ tb_G := tb_in (List.mem_of_getElem? (i := 143) (by decide +kernel)) rfl
theorem tq_145 : (.lays "PullSaw$Yard" "PullSaw$Yard" "closes" "I" : Cond) ∈ tb_G := tb_in (List.mem_of_getElem? (i := 145) (by decide +kernel)) rfl
theorem tq_147 : (.laysFinal "PullSaw$Yard" "PullSaw$Yard" "woods" "[I" : Cond) ∈ tb_G := tb_in (List.mem_of_getElem? (i := 147) (by decide +kernel)) rfl
theorem tq_149 : (.laysFinal "PullSaw$Yard" "PullSaw$Yard" "forces" "[I" : Cond) ∈ tb_G := tb_in (List.mem_of_getElem? (i := 149) (by decide +kernel)) rfl
theorem tq_151 : (.laysFinal "PullSaw$Yard" "PullSaw$Yard" "heights" "[I" : Cond) ∈ tb_G := tb_in (List.mem_of_getElem? (i := 151) (by decide +kernel)) rfl
theorem tq_153 : (.laysFinal "PullSaw$Yard" "PullSaw$Yard" "tires" "[I" : Cond) ∈ tb_G := tb_in (List.mem_of_getElem? (i := 153) (by decide +kernel)) rfl
theorem tq_155 : (.laysFinal "PullSaw$Yard" "PullSaw$Yard" "firstHabits" "[I" : Cond) ∈ tb_G := tb_in (List.mem_of_getElem? (i := 155) (by decide +kernel)) rfl
theorem tq_157 : (.laysFinal "PullSaw$Yard" "PullSaw$Yard" "bents" "[I" : Cond) ∈ tb_G := tb_in (List.mem_of_getElem? (i := 157) (by decide +kernel)) rfl
theorem tq_160 : (.arrayClass .int : Cond) ∈ tb_G := tb_in (List.mem_of_getElem? (i := 160) (by decide +kernel)) rfl
theorem tq_161 : (.classLink "PullSaw" 16 "PullSaw$Reader" : Cond) ∈ tb_G := tb_in (List.mem_of_getElem? (i := 161) (by decide +kernel)) rfl
theorem tq_162 : (.instantiable "PullSaw$Reader" 7 : Cond) ∈ tb_G := tb_in (List.mem_of_getElem? (i := 162) (by decide +kernel)) rfl
theorem tq_164 : (.instanceMethod ⟨"PullSaw$Reader", "<init>", "()V"⟩ : Cond) ∈ tb_G := tb_in (List.mem_of_getElem? (i := 164) (by decide +kernel)) rfl
set_option maxRecDepth 100000 in
theorem tq_165 : (.code ⟨"PullSaw$Reader", "<init>", "()V"⟩ prog_5_method_1_code 1 none : Cond) ∈ tb_G := tb_in (List.mem_of_getElem? (i := 165) rfl) rfl
theorem tq_166 : (.methodLink "PullSaw$Reader" 3 ⟨"java/lang/Object", "<init>", "()V"⟩ : Cond) ∈ tb_G := tb_in (List.mem_of_getElem? (i := 166) (by decide +kernel)) rfl
theorem tq_167 : (.classLink "PullSaw$Reader" 9 "PullSaw$Sheet" : Cond) ∈ tb_G := tb_in (List.mem_of_getElem? (i := 167) (by decide +kernel)) rfl
theorem tq_168 : (.instantiable "PullSaw$Sheet" 2 : Cond) ∈ tb_G := tb_in (List.mem_of_getElem? (i := 168) (by decide +kernel)) rfl
theorem tq_169 : (.methodLink "PullSaw$Reader" 11 ⟨"PullSaw$Sheet", "<init>", "(I)V"⟩ : Cond) ∈ tb_G := tb_in (List.mem_of_getElem? (i := 169) (by decide +kernel)) rfl
theorem tq_170 : (.instanceMethod ⟨"PullSaw$Sheet", "<init>", "(I)V"⟩ : Cond) ∈ tb_G := tb_in (List.mem_of_getElem? (i := 170) (by decide +kernel)) rfl
set_option maxRecDepth 100000 in
theorem tq_171 : (.code ⟨"PullSaw$Sheet", "<init>", "(I)V"⟩ prog_7_method_1_code 2 none : Cond) ∈ tb_G := tb_in (List.mem_of_getElem? (i := 171) rfl) rfl
theorem tq_172 : (.methodLink "PullSaw$Sheet" 3 ⟨"java/lang/Object", "<init>", "()V"⟩ : Cond) ∈ tb_G := tb_in (List.mem_of_getElem? (i := 172) (by decide +kernel)) rfl
theorem tq_173 : (.methodLink "PullSaw$Sheet" 9 ⟨"java/lang/Math", "max", "(II)I"⟩ : Cond) ∈ tb_G := tb_in (List.mem_of_getElem? (i := 173) (by decide +kernel)) rfl
theorem tq_174 : (.static ⟨"java/lang/Math", "max", "(II)I"⟩ : Cond) ∈ tb_G := tb_in (List.mem_of_getElem? (i := 174) (by decide +kernel)) rfl
set_option maxRecDepth 100000 in
theorem tq_175 : (.code ⟨"java/lang/Math", "max", "(II)I"⟩ prog_14_method_65_code 2 (some .int) : Cond) ∈ tb_G := tb_in (List.mem_of_getElem? (i := 175) rfl) rfl
theorem tq_176 : (.fieldLink "PullSaw$Sheet" 15 "PullSaw$Sheet" "marks" "[I" : Cond) ∈ tb_G := tb_in (List.mem_of_getElem? (i := 176) (by decide +kernel)) rfl
theorem tq_177 : (.fieldLink "PullSaw$Sheet" 21 "PullSaw$Sheet" "count" "I" : Cond) ∈ tb_G := tb_in (List.mem_of_getElem? (i := 177) (by decide +kernel)) rfl
theorem tq_178 : (.fieldLink "PullSaw" 81 "PullSaw$Sheet" "count" "I" : Cond) ∈ tb_G := tb_in (List.mem_of_getElem? (i := 178) (by decide +kernel)) rfl
theorem tq_179 : (.fieldLink "PullSaw$Reader" 50 "PullSaw$Sheet" "count" "I" : Cond) ∈ tb_G := tb_in (List.mem_of_getElem? (i := 179) (by decide +kernel)) rfl
theorem tq_180 : (.fieldLink "PullSaw$Trial" 173 "PullSaw$Sheet" "count" "I" : Cond) ∈ tb_G := tb_in (List.mem_of_getElem? (i := 180) (by decide +kernel)) rfl
theorem tq_181 : (.laysFinal "PullSaw$Sheet" "PullSaw$Sheet" "marks" "[I" : Cond) ∈ tb_G := tb_in (List.mem_of_getElem? (i := 181) (by decide +kernel)) rfl
theorem tq_183 : (.lays "PullSaw$Sheet" "PullSaw$Sheet" "count" "I" : Cond) ∈ tb_G := tb_in (List.mem_of_getElem? (i := 183) (by decide +kernel)) rfl
theorem tq_186 : (.classLink "PullSaw$Reader" 20 "PullSaw$Yard" : Cond) ∈ tb_G := tb_in (List.mem_of_getElem? (i := 186) (by decide +kernel)) rfl
theorem tq_188 : (.fieldLink "PullSaw$Reader" 14 "PullSaw$Reader" "text" "LPullSaw$Sheet;" : Cond) ∈ tb_G := tb_in (List.mem_of_getElem? (i := 188) (by decide +kernel)) rfl
theorem tq_189 : (.fieldLink "PullSaw" 74 "PullSaw$Reader" "text" "LPullSaw$Sheet;" : Cond) ∈ tb_G := tb_in (List.mem_of_getElem? (i := 189) (by decide +kernel)) rfl
theorem tq_190 : (.fieldLink "PullSaw$Reader" 23 "PullSaw$Reader" "draft" "LPullSaw$Yard;" : Cond) ∈ tb_G := tb_in (List.mem_of_getElem? (i := 190) (by decide +kernel)) rfl
theorem tq_191 : (.fieldLink "PullSaw" 92 "PullSaw$Reader" "draft" "LPullSaw$Yard;" : Cond) ∈ tb_G := tb_in (List.mem_of_getElem? (i := 191) (by decide +kernel)) rfl
theorem tq_192 : (.fieldLink "PullSaw$Reader" 34 "PullSaw$Reader" "faultKind" "I" : Cond) ∈ tb_G := tb_in (List.mem_of_getElem? (i := 192) (by decide +kernel)) rfl
theorem tq_193 : (.fieldLink "PullSaw" 89 "PullSaw$Reader" "faultKind" "I" : Cond) ∈ tb_G := tb_in (List.mem_of_getElem? (i := 193) (by decide +kernel)) rfl
theorem tq_194 : (.fieldLink "PullSaw$Reader" 27 "PullSaw$Reader" "faultPlace" "I" : Cond) ∈ tb_G := tb_in (List.mem_of_getElem? (i := 194) (by decide +kernel)) rfl
theorem tq_195 : (.fieldLink "PullSaw" 113 "PullSaw$Reader" "faultPlace" "I" : Cond) ∈ tb_G := tb_in (List.mem_of_getElem? (i := 195) (by decide +kernel)) rfl
theorem tq_196 : (.fieldLink "PullSaw$Reader" 37 "PullSaw$Reader" "place" "I" : Cond) ∈ tb_G := tb_in (List.mem_of_getElem? (i := 196) (by decide +kernel)) rfl
theorem tq_197 : (.fieldLink "PullSaw$Reader" 40 "PullSaw$Reader" "sawTold" "Z" : Cond) ∈ tb_G := tb_in (List.mem_of_getElem? (i := 197) (by decide +kernel)) rfl
theorem tq_198 : (.fieldLink "PullSaw$Reader" 44 "PullSaw$Reader" "closeTold" "Z" : Cond) ∈ tb_G := tb_in (List.mem_of_getElem? (i := 198) (by decide +kernel)) rfl
theorem tq_199 : (.laysFinal "PullSaw$Reader" "PullSaw$Reader" "text" "LPullSaw$Sheet;" : Cond) ∈ tb_G := tb_in (List.mem_of_getElem? (i := 199) (by decide +kernel)) rfl
theorem tq_201 : (.laysFinal "PullSaw$Reader" "PullSaw$Reader" "draft" "LPullSaw$Yard;" : Cond) ∈ tb_G := tb_in (List.mem_of_getElem? (i := 201) (by decide +kernel)) rfl
theorem tq_203 : (.lays "PullSaw$Reader" "PullSaw$Reader" "faultKind" "I" : Cond) ∈ tb_G := tb_in (List.mem_of_getElem? (i := 203) (by decide +kernel)) rfl
theorem tq_205 : (.lays "PullSaw$Reader" "PullSaw$Reader" "faultPlace" "I" : Cond) ∈ tb_G := tb_in (List.mem_of_getElem? (i := 205) (by decide +kernel)) rfl
theorem tq_207 : (.lays "PullSaw$Reader" "PullSaw$Reader" "place" "I" : Cond) ∈ tb_G := tb_in (List.mem_of_getElem? (i := 207) (by decide +kernel)) rfl
theorem tq_209 : (.lays "PullSaw$Reader" "PullSaw$Reader" "sawTold" "Z" : Cond) ∈ tb_G := tb_in (List.mem_of_getElem? (i := 209) (by decide +kernel)) rfl
theorem tq_211 : (.lays "PullSaw$Reader" "PullSaw$Reader" "closeTold" "Z" : Cond) ∈ tb_G := tb_in (List.mem_of_getElem? (i := 211) (by decide +kernel)) rfl
theorem tq_214 : (.classLink "PullSaw" 23 "PullSaw$Work" : Cond) ∈ tb_G := tb_in (List.mem_of_getElem? (i := 214) (by decide +kernel)) rfl
theorem tq_215 : (.instantiable "PullSaw$Work" 13 : Cond) ∈ tb_G := tb_in (List.mem_of_getElem? (i := 215) (by decide +kernel)) rfl
theorem tq_217 : (.instanceMethod ⟨"PullSaw$Work", "<init>", "()V"⟩ : Cond) ∈ tb_G := tb_in (List.mem_of_getElem? (i := 217) (by decide +kernel)) rfl
set_option maxRecDepth 100000 in
theorem tq_218 : (.code ⟨"PullSaw$Work", "<init>", "()V"⟩ prog_9_method_1_code 1 none : Cond) ∈ tb_G := tb_in (List.mem_of_getElem? (i := 218) rfl) rfl
theorem tq_219 : (.methodLink "PullSaw$Work" 3 ⟨"java/lang/Object", "<init>", "()V"⟩ : Cond) ∈ tb_G := tb_in (List.mem_of_getElem? (i := 219) (by decide +kernel)) rfl
theorem tq_220 : (.fieldLink "PullSaw$Work" 9 "PullSaw$Work" "left" "I" : Cond) ∈ tb_G := tb_in (List.mem_of_getElem? (i := 220) (by decide +kernel)) rfl
theorem tq_221 : (.fieldLink "PullSaw" 119 "PullSaw$Work" "left" "I" : Cond) ∈ tb_G := tb_in (List.mem_of_getElem? (i := 221) (by decide +kernel)) rfl
theorem tq_222 : (.fieldLink "PullSaw$Trial" 70 "PullSaw$Work" "left" "I" : Cond) ∈ tb_G := tb_in (List.mem_of_getElem? (i := 222) (by decide +kernel)) rfl
theorem tq_223 : (.fieldLink "PullSaw$Work" 15 "PullSaw$Work" "right" "I" : Cond) ∈ tb_G := tb_in (List.mem_of_getElem? (i := 223) (by decide +kernel)) rfl
theorem tq_224 : (.fieldLink "PullSaw" 122 "PullSaw$Work" "right" "I" : Cond) ∈ tb_G := tb_in (List.mem_of_getElem? (i := 224) (by decide +kernel)) rfl
theorem tq_225 : (.fieldLink "PullSaw$Trial" 81 "PullSaw$Work" "right" "I" : Cond) ∈ tb_G := tb_in (List.mem_of_getElem? (i := 225) (by decide +kernel)) rfl
theorem tq_226 : (.fieldLink "PullSaw$Work" 18 "PullSaw$Work" "next" "I" : Cond) ∈ tb_G := tb_in (List.mem_of_getElem? (i := 226) (by decide +kernel)) rfl
theorem tq_227 : (.fieldLink "PullSaw" 125 "PullSaw$Work" "next" "I" : Cond) ∈ tb_G := tb_in (List.mem_of_getElem? (i := 227) (by decide +kernel)) rfl
theorem tq_228 : (.fieldLink "PullSaw$Work" 37 "PullSaw$Work" "depth" "I" : Cond) ∈ tb_G := tb_in (List.mem_of_getElem? (i := 228) (by decide +kernel)) rfl
theorem tq_229 : (.fieldLink "PullSaw" 128 "PullSaw$Work" "depth" "I" : Cond) ∈ tb_G := tb_in (List.mem_of_getElem? (i := 229) (by decide +kernel)) rfl
theorem tq_230 : (.fieldLink "PullSaw$Trial" 156 "PullSaw$Work" "depth" "I" : Cond) ∈ tb_G := tb_in (List.mem_of_getElem? (i := 230) (by decide +kernel)) rfl
theorem tq_231 : (.fieldLink "PullSaw$Work" 40 "PullSaw$Work" "strokes" "I" : Cond) ∈ tb_G := tb_in (List.mem_of_getElem? (i := 231) (by decide +kernel)) rfl
theorem tq_232 : (.fieldLink "PullSaw" 131 "PullSaw$Work" "strokes" "I" : Cond) ∈ tb_G := tb_in (List.mem_of_getElem? (i := 232) (by decide +kernel)) rfl
theorem tq_233 : (.fieldLink "PullSaw$Work" 43 "PullSaw$Work" "askew" "I" : Cond) ∈ tb_G := tb_in (List.mem_of_getElem? (i := 233) (by decide +kernel)) rfl
theorem tq_234 : (.fieldLink "PullSaw" 134 "PullSaw$Work" "askew" "I" : Cond) ∈ tb_G := tb_in (List.mem_of_getElem? (i := 234) (by decide +kernel)) rfl
theorem tq_235 : (.fieldLink "PullSaw$Work" 46 "PullSaw$Work" "gum" "I" : Cond) ∈ tb_G := tb_in (List.mem_of_getElem? (i := 235) (by decide +kernel)) rfl
theorem tq_236 : (.fieldLink "PullSaw" 137 "PullSaw$Work" "gum" "I" : Cond) ∈ tb_G := tb_in (List.mem_of_getElem? (i := 236) (by decide +kernel)) rfl
theorem tq_237 : (.fieldLink "PullSaw$Work" 21 "PullSaw$Work" "teeth" "I" : Cond) ∈ tb_G := tb_in (List.mem_of_getElem? (i := 237) (by decide +kernel)) rfl
theorem tq_238 : (.fieldLink "PullSaw" 143 "PullSaw$Work" "teeth" "I" : Cond) ∈ tb_G := tb_in (List.mem_of_getElem? (i := 238) (by decide +kernel)) rfl
theorem tq_239 : (.fieldLink "PullSaw$Trial" 159 "PullSaw$Work" "teeth" "I" : Cond) ∈ tb_G := tb_in (List.mem_of_getElem? (i := 239) (by decide +kernel)) rfl
theorem tq_240 : (.fieldLink "PullSaw$Work" 49 "PullSaw$Work" "wedged" "Z" : Cond) ∈ tb_G := tb_in (List.mem_of_getElem? (i := 240) (by decide +kernel)) rfl
theorem tq_241 : (.fieldLink "PullSaw" 140 "PullSaw$Work" "wedged" "Z" : Cond) ∈ tb_G := tb_in (List.mem_of_getElem? (i := 241) (by decide +kernel)) rfl
theorem tq_242 : (.fieldLink "PullSaw$Trial" 133 "PullSaw$Work" "wedged" "Z" : Cond) ∈ tb_G := tb_in (List.mem_of_getElem? (i := 242) (by decide +kernel)) rfl
theorem tq_243 : (.fieldLink "PullSaw$Work" 24 "PullSaw$Work" "wishes" "[I" : Cond) ∈ tb_G := tb_in (List.mem_of_getElem? (i := 243) (by decide +kernel)) rfl
theorem tq_244 : (.fieldLink "PullSaw$Trial" 43 "PullSaw$Work" "wishes" "[I" : Cond) ∈ tb_G := tb_in (List.mem_of_getElem? (i := 244) (by decide +kernel)) rfl
theorem tq_245 : (.fieldLink "PullSaw" 189 "PullSaw$Work" "wishes" "[I" : Cond) ∈ tb_G := tb_in (List.mem_of_getElem? (i := 245) (by decide +kernel)) rfl
theorem tq_246 : (.fieldLink "PullSaw$Work" 28 "PullSaw$Work" "habits" "[I" : Cond) ∈ tb_G := tb_in (List.mem_of_getElem? (i := 246) (by decide +kernel)) rfl
theorem tq_247 : (.fieldLink "PullSaw" 183 "PullSaw$Work" "habits" "[I" : Cond) ∈ tb_G := tb_in (List.mem_of_getElem? (i := 247) (by decide +kernel)) rfl
theorem tq_248 : (.fieldLink "PullSaw$Trial" 162 "PullSaw$Work" "habits" "[I" : Cond) ∈ tb_G := tb_in (List.mem_of_getElem? (i := 248) (by decide +kernel)) rfl
theorem tq_249 : (.fieldLink "PullSaw$Work" 31 "PullSaw$Work" "tired" "[I" : Cond) ∈ tb_G := tb_in (List.mem_of_getElem? (i := 249) (by decide +kernel)) rfl
theorem tq_250 : (.fieldLink "PullSaw$Trial" 67 "PullSaw$Work" "tired" "[I" : Cond) ∈ tb_G := tb_in (List.mem_of_getElem? (i := 250) (by decide +kernel)) rfl
theorem tq_251 : (.fieldLink "PullSaw" 192 "PullSaw$Work" "tired" "[I" : Cond) ∈ tb_G := tb_in (List.mem_of_getElem? (i := 251) (by decide +kernel)) rfl
theorem tq_252 : (.fieldLink "PullSaw$Work" 34 "PullSaw$Work" "answers" "[I" : Cond) ∈ tb_G := tb_in (List.mem_of_getElem? (i := 252) (by decide +kernel)) rfl
theorem tq_253 : (.fieldLink "PullSaw$Trial" 87 "PullSaw$Work" "answers" "[I" : Cond) ∈ tb_G := tb_in (List.mem_of_getElem? (i := 253) (by decide +kernel)) rfl
theorem tq_254 : (.fieldLink "PullSaw" 195 "PullSaw$Work" "answers" "[I" : Cond) ∈ tb_G := tb_in (List.mem_of_getElem? (i := 254) (by decide +kernel)) rfl
theorem tq_255 : (.lays "PullSaw$Work" "PullSaw$Work" "left" "I" : Cond) ∈ tb_G := tb_in (List.mem_of_getElem? (i := 255) (by decide +kernel)) rfl
theorem tq_257 : (.lays "PullSaw$Work" "PullSaw$Work" "right" "I" : Cond) ∈ tb_G := tb_in (List.mem_of_getElem? (i := 257) (by decide +kernel)) rfl
theorem tq_259 : (.lays "PullSaw$Work" "PullSaw$Work" "next" "I" : Cond) ∈ tb_G := tb_in (List.mem_of_getElem? (i := 259) (by decide +kernel)) rfl
theorem tq_261 : (.lays "PullSaw$Work" "PullSaw$Work" "depth" "I" : Cond) ∈ tb_G := tb_in (List.mem_of_getElem? (i := 261) (by decide +kernel)) rfl
theorem tq_263 : (.lays "PullSaw$Work" "PullSaw$Work" "strokes" "I" : Cond) ∈ tb_G := tb_in (List.mem_of_getElem? (i := 263) (by decide +kernel)) rfl
theorem tq_265 : (.lays "PullSaw$Work" "PullSaw$Work" "askew" "I" : Cond) ∈ tb_G := tb_in (List.mem_of_getElem? (i := 265) (by decide +kernel)) rfl
theorem tq_267 : (.lays "PullSaw$Work" "PullSaw$Work" "gum" "I" : Cond) ∈ tb_G := tb_in (List.mem_of_getElem? (i := 267) (by decide +kernel)) rfl
theorem tq_269 : (.lays "PullSaw$Work" "PullSaw$Work" "teeth" "I" : Cond) ∈ tb_G := tb_in (List.mem_of_getElem? (i := 269) (by decide +kernel)) rfl
theorem tq_271 : (.lays "PullSaw$Work" "PullSaw$Work" "wedged" "Z" : Cond) ∈ tb_G := tb_in (List.mem_of_getElem? (i := 271) (by decide +kernel)) rfl
theorem tq_273 : (.laysFinal "PullSaw$Work" "PullSaw$Work" "wishes" "[I" : Cond) ∈ tb_G := tb_in (List.mem_of_getElem? (i := 273) (by decide +kernel)) rfl
theorem tq_275 : (.laysFinal "PullSaw$Work" "PullSaw$Work" "habits" "[I" : Cond) ∈ tb_G := tb_in (List.mem_of_getElem? (i := 275) (by decide +kernel)) rfl
theorem tq_277 : (.laysFinal "PullSaw$Work" "PullSaw$Work" "tired" "[I" : Cond) ∈ tb_G := tb_in (List.mem_of_getElem? (i := 277) (by decide +kernel)) rfl
theorem tq_279 : (.laysFinal "PullSaw$Work" "PullSaw$Work" "answers" "[I" : Cond) ∈ tb_G := tb_in (List.mem_of_getElem? (i := 279) (by decide +kernel)) rfl
theorem tq_282 : (.classLink "PullSaw" 30 "PullSaw$Past" : Cond) ∈ tb_G := tb_in (List.mem_of_getElem? (i := 282) (by decide +kernel)) rfl
theorem tq_283 : (.instantiable "PullSaw$Past" 3 : Cond) ∈ tb_G := tb_in (List.mem_of_getElem? (i := 283) (by decide +kernel)) rfl
theorem tq_284 : (.methodLink "PullSaw" 32 ⟨"PullSaw$Past", "<init>", "()V"⟩ : Cond) ∈ tb_G := tb_in (List.mem_of_getElem? (i := 284) (by decide +kernel)) rfl
theorem tq_285 : (.instanceMethod ⟨"PullSaw$Past", "<init>", "()V"⟩ : Cond) ∈ tb_G := tb_in (List.mem_of_getElem? (i := 285) (by decide +kernel)) rfl
set_option maxRecDepth 100000 in
theorem tq_286 : (.code ⟨"PullSaw$Past", "<init>", "()V"⟩ prog_4_method_1_code 2 none : Cond) ∈ tb_G := tb_in (List.mem_of_getElem? (i := 286) rfl) rfl
theorem tq_287 : (.methodLink "PullSaw$Past" 3 ⟨"java/lang/Object", "<init>", "()V"⟩ : Cond) ∈ tb_G := tb_in (List.mem_of_getElem? (i := 287) (by decide +kernel)) rfl
theorem tq_288 : (.classLink "PullSaw$Past" 9 "PullSaw$Work" : Cond) ∈ tb_G := tb_in (List.mem_of_getElem? (i := 288) (by decide +kernel)) rfl
theorem tq_291 : (.fieldLink "PullSaw$Past" 18 "PullSaw$Past" "count" "I" : Cond) ∈ tb_G := tb_in (List.mem_of_getElem? (i := 291) (by decide +kernel)) rfl
theorem tq_292 : (.fieldLink "PullSaw" 159 "PullSaw$Past" "count" "I" : Cond) ∈ tb_G := tb_in (List.mem_of_getElem? (i := 292) (by decide +kernel)) rfl
theorem tq_293 : (.fieldLink "PullSaw$Past" 22 "PullSaw$Past" "top" "I" : Cond) ∈ tb_G := tb_in (List.mem_of_getElem? (i := 293) (by decide +kernel)) rfl
theorem tq_294 : (.fieldLink "PullSaw$Past" 11 "PullSaw$Past" "ring" "[LPullSaw$Work;" : Cond) ∈ tb_G := tb_in (List.mem_of_getElem? (i := 294) (by decide +kernel)) rfl
theorem tq_295 : (.lays "PullSaw$Past" "PullSaw$Past" "count" "I" : Cond) ∈ tb_G := tb_in (List.mem_of_getElem? (i := 295) (by decide +kernel)) rfl
theorem tq_297 : (.lays "PullSaw$Past" "PullSaw$Past" "top" "I" : Cond) ∈ tb_G := tb_in (List.mem_of_getElem? (i := 297) (by decide +kernel)) rfl
theorem tq_299 : (.laysFinal "PullSaw$Past" "PullSaw$Past" "ring" "[LPullSaw$Work;" : Cond) ∈ tb_G := tb_in (List.mem_of_getElem? (i := 299) (by decide +kernel)) rfl
theorem tq_302 : (.classLink "PullSaw" 37 "PullSaw$Trial" : Cond) ∈ tb_G := tb_in (List.mem_of_getElem? (i := 302) (by decide +kernel)) rfl
theorem tq_303 : (.instantiable "PullSaw$Trial" 10 : Cond) ∈ tb_G := tb_in (List.mem_of_getElem? (i := 303) (by decide +kernel)) rfl
theorem tq_305 : (.instanceMethod ⟨"PullSaw$Trial", "<init>", "()V"⟩ : Cond) ∈ tb_G := tb_in (List.mem_of_getElem? (i := 305) (by decide +kernel)) rfl
set_option maxRecDepth 100000 in
theorem tq_306 : (.code ⟨"PullSaw$Trial", "<init>", "()V"⟩ prog_8_method_1_code 1 none : Cond) ∈ tb_G := tb_in (List.mem_of_getElem? (i := 306) rfl) rfl
theorem tq_307 : (.methodLink "PullSaw$Trial" 3 ⟨"java/lang/Object", "<init>", "()V"⟩ : Cond) ∈ tb_G := tb_in (List.mem_of_getElem? (i := 307) (by decide +kernel)) rfl
theorem tq_308 : (.classLink "PullSaw$Trial" 9 "PullSaw$Work" : Cond) ∈ tb_G := tb_in (List.mem_of_getElem? (i := 308) (by decide +kernel)) rfl
theorem tq_310 : (.fieldLink "PullSaw$Trial" 96 "PullSaw$Trial" "fewest" "I" : Cond) ∈ tb_G := tb_in (List.mem_of_getElem? (i := 310) (by decide +kernel)) rfl
theorem tq_311 : (.fieldLink "PullSaw" 263 "PullSaw$Trial" "fewest" "I" : Cond) ∈ tb_G := tb_in (List.mem_of_getElem? (i := 311) (by decide +kernel)) rfl
theorem tq_312 : (.fieldLink "PullSaw$Trial" 99 "PullSaw$Trial" "firstWish" "I" : Cond) ∈ tb_G := tb_in (List.mem_of_getElem? (i := 312) (by decide +kernel)) rfl
theorem tq_313 : (.fieldLink "PullSaw" 266 "PullSaw$Trial" "firstWish" "I" : Cond) ∈ tb_G := tb_in (List.mem_of_getElem? (i := 313) (by decide +kernel)) rfl
theorem tq_314 : (.fieldLink "PullSaw$Trial" 102 "PullSaw$Trial" "otherWish" "I" : Cond) ∈ tb_G := tb_in (List.mem_of_getElem? (i := 314) (by decide +kernel)) rfl
theorem tq_315 : (.fieldLink "PullSaw" 269 "PullSaw$Trial" "otherWish" "I" : Cond) ∈ tb_G := tb_in (List.mem_of_getElem? (i := 315) (by decide +kernel)) rfl
theorem tq_316 : (.fieldLink "PullSaw$Trial" 137 "PullSaw$Trial" "deepest" "I" : Cond) ∈ tb_G := tb_in (List.mem_of_getElem? (i := 316) (by decide +kernel)) rfl
theorem tq_317 : (.fieldLink "PullSaw" 296 "PullSaw$Trial" "deepest" "I" : Cond) ∈ tb_G := tb_in (List.mem_of_getElem? (i := 317) (by decide +kernel)) rfl
theorem tq_318 : (.fieldLink "PullSaw$Trial" 78 "PullSaw$Trial" "leftTired" "I" : Cond) ∈ tb_G := tb_in (List.mem_of_getElem? (i := 318) (by decide +kernel)) rfl
theorem tq_319 : (.fieldLink "PullSaw$Trial" 84 "PullSaw$Trial" "rightTired" "I" : Cond) ∈ tb_G := tb_in (List.mem_of_getElem? (i := 319) (by decide +kernel)) rfl
theorem tq_320 : (.fieldLink "PullSaw$Trial" 90 "PullSaw$Trial" "leftAnswer" "I" : Cond) ∈ tb_G := tb_in (List.mem_of_getElem? (i := 320) (by decide +kernel)) rfl
theorem tq_321 : (.fieldLink "PullSaw$Trial" 93 "PullSaw$Trial" "rightAnswer" "I" : Cond) ∈ tb_G := tb_in (List.mem_of_getElem? (i := 321) (by decide +kernel)) rfl
theorem tq_322 : (.fieldLink "PullSaw$Trial" 12 "PullSaw$Trial" "tried" "LPullSaw$Work;" : Cond) ∈ tb_G := tb_in (List.mem_of_getElem? (i := 322) (by decide +kernel)) rfl
theorem tq_323 : (.fieldLink "PullSaw$Trial" 18 "PullSaw$Trial" "further" "LPullSaw$Work;" : Cond) ∈ tb_G := tb_in (List.mem_of_getElem? (i := 323) (by decide +kernel)) rfl
theorem tq_324 : (.lays "PullSaw$Trial" "PullSaw$Trial" "fewest" "I" : Cond) ∈ tb_G := tb_in (List.mem_of_getElem? (i := 324) (by decide +kernel)) rfl
theorem tq_326 : (.lays "PullSaw$Trial" "PullSaw$Trial" "firstWish" "I" : Cond) ∈ tb_G := tb_in (List.mem_of_getElem? (i := 326) (by decide +kernel)) rfl
theorem tq_328 : (.lays "PullSaw$Trial" "PullSaw$Trial" "otherWish" "I" : Cond) ∈ tb_G := tb_in (List.mem_of_getElem? (i := 328) (by decide +kernel)) rfl
theorem tq_330 : (.lays "PullSaw$Trial" "PullSaw$Trial" "deepest" "I" : Cond) ∈ tb_G := tb_in (List.mem_of_getElem? (i := 330) (by decide +kernel)) rfl
theorem tq_332 : (.lays "PullSaw$Trial" "PullSaw$Trial" "leftTired" "I" : Cond) ∈ tb_G := tb_in (List.mem_of_getElem? (i := 332) (by decide +kernel)) rfl
theorem tq_334 : (.lays "PullSaw$Trial" "PullSaw$Trial" "rightTired" "I" : Cond) ∈ tb_G := tb_in (List.mem_of_getElem? (i := 334) (by decide +kernel)) rfl
theorem tq_336 : (.lays "PullSaw$Trial" "PullSaw$Trial" "leftAnswer" "I" : Cond) ∈ tb_G := tb_in (List.mem_of_getElem? (i := 336) (by decide +kernel)) rfl
theorem tq_338 : (.lays "PullSaw$Trial" "PullSaw$Trial" "rightAnswer" "I" : Cond) ∈ tb_G := tb_in (List.mem_of_getElem? (i := 338) (by decide +kernel)) rfl
theorem tq_340 : (.laysFinal "PullSaw$Trial" "PullSaw$Trial" "tried" "LPullSaw$Work;" : Cond) ∈ tb_G := tb_in (List.mem_of_getElem? (i := 340) (by decide +kernel)) rfl
theorem tq_342 : (.laysFinal "PullSaw$Trial" "PullSaw$Trial" "further" "LPullSaw$Work;" : Cond) ∈ tb_G := tb_in (List.mem_of_getElem? (i := 342) (by decide +kernel)) rfl
theorem tq_345 : (.classLink "PullSaw" 44 "PullSaw$Balance" : Cond) ∈ tb_G := tb_in (List.mem_of_getElem? (i := 345) (by decide +kernel)) rfl
theorem tq_346 : (.instantiable "PullSaw$Balance" 7 : Cond) ∈ tb_G := tb_in (List.mem_of_getElem? (i := 346) (by decide +kernel)) rfl
theorem tq_348 : (.instanceMethod ⟨"PullSaw$Balance", "<init>", "()V"⟩ : Cond) ∈ tb_G := tb_in (List.mem_of_getElem? (i := 348) (by decide +kernel)) rfl
set_option maxRecDepth 100000 in
theorem tq_349 : (.code ⟨"PullSaw$Balance", "<init>", "()V"⟩ prog_2_method_1_code 1 none : Cond) ∈ tb_G := tb_in (List.mem_of_getElem? (i := 349) rfl) rfl
theorem tq_350 : (.methodLink "PullSaw$Balance" 3 ⟨"java/lang/Object", "<init>", "()V"⟩ : Cond) ∈ tb_G := tb_in (List.mem_of_getElem? (i := 350) (by decide +kernel)) rfl
theorem tq_351 : (.fieldLink "PullSaw$Balance" 63 "PullSaw$Balance" "fewest" "I" : Cond) ∈ tb_G := tb_in (List.mem_of_getElem? (i := 351) (by decide +kernel)) rfl
theorem tq_352 : (.fieldLink "PullSaw" 285 "PullSaw$Balance" "fewest" "I" : Cond) ∈ tb_G := tb_in (List.mem_of_getElem? (i := 352) (by decide +kernel)) rfl
theorem tq_353 : (.fieldLink "PullSaw$Balance" 28 "PullSaw$Balance" "latestFirst" "I" : Cond) ∈ tb_G := tb_in (List.mem_of_getElem? (i := 353) (by decide +kernel)) rfl
theorem tq_354 : (.fieldLink "PullSaw" 286 "PullSaw$Balance" "latestFirst" "I" : Cond) ∈ tb_G := tb_in (List.mem_of_getElem? (i := 354) (by decide +kernel)) rfl
theorem tq_355 : (.fieldLink "PullSaw$Balance" 18 "PullSaw$Balance" "askew" "I" : Cond) ∈ tb_G := tb_in (List.mem_of_getElem? (i := 355) (by decide +kernel)) rfl
theorem tq_356 : (.fieldLink "PullSaw$Balance" 22 "PullSaw$Balance" "lean" "I" : Cond) ∈ tb_G := tb_in (List.mem_of_getElem? (i := 356) (by decide +kernel)) rfl
theorem tq_357 : (.fieldLink "PullSaw$Balance" 25 "PullSaw$Balance" "most" "I" : Cond) ∈ tb_G := tb_in (List.mem_of_getElem? (i := 357) (by decide +kernel)) rfl
theorem tq_358 : (.fieldLink "PullSaw$Balance" 11 "PullSaw$Balance" "costs" "[I" : Cond) ∈ tb_G := tb_in (List.mem_of_getElem? (i := 358) (by decide +kernel)) rfl
theorem tq_359 : (.fieldLink "PullSaw$Balance" 15 "PullSaw$Balance" "laterCosts" "[I" : Cond) ∈ tb_G := tb_in (List.mem_of_getElem? (i := 359) (by decide +kernel)) rfl
theorem tq_360 : (.lays "PullSaw$Balance" "PullSaw$Balance" "fewest" "I" : Cond) ∈ tb_G := tb_in (List.mem_of_getElem? (i := 360) (by decide +kernel)) rfl
theorem tq_362 : (.lays "PullSaw$Balance" "PullSaw$Balance" "latestFirst" "I" : Cond) ∈ tb_G := tb_in (List.mem_of_getElem? (i := 362) (by decide +kernel)) rfl
theorem tq_364 : (.lays "PullSaw$Balance" "PullSaw$Balance" "askew" "I" : Cond) ∈ tb_G := tb_in (List.mem_of_getElem? (i := 364) (by decide +kernel)) rfl
theorem tq_366 : (.lays "PullSaw$Balance" "PullSaw$Balance" "lean" "I" : Cond) ∈ tb_G := tb_in (List.mem_of_getElem? (i := 366) (by decide +kernel)) rfl
theorem tq_368 : (.lays "PullSaw$Balance" "PullSaw$Balance" "most" "I" : Cond) ∈ tb_G := tb_in (List.mem_of_getElem? (i := 368) (by decide +kernel)) rfl
theorem tq_370 : (.lays "PullSaw$Balance" "PullSaw$Balance" "costs" "[I" : Cond) ∈ tb_G := tb_in (List.mem_of_getElem? (i := 370) (by decide +kernel)) rfl
theorem tq_372 : (.lays "PullSaw$Balance" "PullSaw$Balance" "laterCosts" "[I" : Cond) ∈ tb_G := tb_in (List.mem_of_getElem? (i := 372) (by decide +kernel)) rfl
theorem tq_375 : (.classLink "PullSaw" 51 "PullSaw$Sheet" : Cond) ∈ tb_G := tb_in (List.mem_of_getElem? (i := 375) (by decide +kernel)) rfl
theorem tq_376 : (.methodLink "PullSaw" 53 ⟨"PullSaw$Sheet", "<init>", "(I)V"⟩ : Cond) ∈ tb_G := tb_in (List.mem_of_getElem? (i := 376) (by decide +kernel)) rfl
theorem tq_377 : (.classLink "PullSaw" 63 "PullSaw$Image" : Cond) ∈ tb_G := tb_in (List.mem_of_getElem? (i := 377) (by decide +kernel)) rfl
theorem tq_378 : (.instantiable "PullSaw$Image" 3 : Cond) ∈ tb_G := tb_in (List.mem_of_getElem? (i := 378) (by decide +kernel)) rfl
theorem tq_380 : (.instanceMethod ⟨"PullSaw$Image", "<init>", "()V"⟩ : Cond) ∈ tb_G := tb_in (List.mem_of_getElem? (i := 380) (by decide +kernel)) rfl
set_option maxRecDepth 100000 in
theorem tq_381 : (.code ⟨"PullSaw$Image", "<init>", "()V"⟩ prog_3_method_1_code 1 none : Cond) ∈ tb_G := tb_in (List.mem_of_getElem? (i := 381) rfl) rfl
theorem tq_382 : (.methodLink "PullSaw$Image" 1 ⟨"java/lang/Object", "<init>", "()V"⟩ : Cond) ∈ tb_G := tb_in (List.mem_of_getElem? (i := 382) (by decide +kernel)) rfl
theorem tq_383 : (.classLink "PullSaw$Image" 7 "PullSaw$Work" : Cond) ∈ tb_G := tb_in (List.mem_of_getElem? (i := 383) (by decide +kernel)) rfl
theorem tq_385 : (.fieldLink "PullSaw$Image" 10 "PullSaw$Image" "work" "LPullSaw$Work;" : Cond) ∈ tb_G := tb_in (List.mem_of_getElem? (i := 385) (by decide +kernel)) rfl
theorem tq_386 : (.fieldLink "PullSaw" 321 "PullSaw$Image" "work" "LPullSaw$Work;" : Cond) ∈ tb_G := tb_in (List.mem_of_getElem? (i := 386) (by decide +kernel)) rfl
theorem tq_387 : (.fieldLink "PullSaw" 326 "PullSaw$Image" "seed" "I" : Cond) ∈ tb_G := tb_in (List.mem_of_getElem? (i := 387) (by decide +kernel)) rfl
theorem tq_388 : (.fieldLink "PullSaw" 106 "PullSaw$Image" "kept" "Z" : Cond) ∈ tb_G := tb_in (List.mem_of_getElem? (i := 388) (by decide +kernel)) rfl
theorem tq_389 : (.laysFinal "PullSaw$Image" "PullSaw$Image" "work" "LPullSaw$Work;" : Cond) ∈ tb_G := tb_in (List.mem_of_getElem? (i := 389) (by decide +kernel)) rfl
theorem tq_391 : (.lays "PullSaw$Image" "PullSaw$Image" "seed" "I" : Cond) ∈ tb_G := tb_in (List.mem_of_getElem? (i := 391) (by decide +kernel)) rfl
theorem tq_393 : (.lays "PullSaw$Image" "PullSaw$Image" "kept" "Z" : Cond) ∈ tb_G := tb_in (List.mem_of_getElem? (i := 393) (by decide +kernel)) rfl
theorem tq_396 : (.fieldLink "PullSaw" 10 "PullSaw" "yard" "LPullSaw$Yard;" : Cond) ∈ tb_G := tb_in (List.mem_of_getElem? (i := 396) (by decide +kernel)) rfl
theorem tq_397 : (.fieldLink "PullSaw" 19 "PullSaw" "reader" "LPullSaw$Reader;" : Cond) ∈ tb_G := tb_in (List.mem_of_getElem? (i := 397) (by decide +kernel)) rfl
theorem tq_398 : (.fieldLink "PullSaw" 26 "PullSaw" "now" "LPullSaw$Work;" : Cond) ∈ tb_G := tb_in (List.mem_of_getElem? (i := 398) (by decide +kernel)) rfl
theorem tq_399 : (.fieldLink "PullSaw" 33 "PullSaw" "past" "LPullSaw$Past;" : Cond) ∈ tb_G := tb_in (List.mem_of_getElem? (i := 399) (by decide +kernel)) rfl
theorem tq_400 : (.fieldLink "PullSaw" 40 "PullSaw" "trial" "LPullSaw$Trial;" : Cond) ∈ tb_G := tb_in (List.mem_of_getElem? (i := 400) (by decide +kernel)) rfl
theorem tq_401 : (.fieldLink "PullSaw" 47 "PullSaw" "balance" "LPullSaw$Balance;" : Cond) ∈ tb_G := tb_in (List.mem_of_getElem? (i := 401) (by decide +kernel)) rfl
theorem tq_402 : (.fieldLink "PullSaw" 56 "PullSaw" "seen" "LPullSaw$Sheet;" : Cond) ∈ tb_G := tb_in (List.mem_of_getElem? (i := 402) (by decide +kernel)) rfl
theorem tq_403 : (.fieldLink "PullSaw" 60 "PullSaw" "book" "LPullSaw$Sheet;" : Cond) ∈ tb_G := tb_in (List.mem_of_getElem? (i := 403) (by decide +kernel)) rfl
theorem tq_404 : (.fieldLink "PullSaw" 66 "PullSaw" "first" "LPullSaw$Image;" : Cond) ∈ tb_G := tb_in (List.mem_of_getElem? (i := 404) (by decide +kernel)) rfl
theorem tq_405 : (.fieldLink "PullSaw" 70 "PullSaw" "second" "LPullSaw$Image;" : Cond) ∈ tb_G := tb_in (List.mem_of_getElem? (i := 405) (by decide +kernel)) rfl
theorem tq_406 : (.fieldLink "PullSaw" 318 "PullSaw" "seed" "I" : Cond) ∈ tb_G := tb_in (List.mem_of_getElem? (i := 406) (by decide +kernel)) rfl
theorem tq_407 : (.laysFinal "PullSaw" "PullSaw" "yard" "LPullSaw$Yard;" : Cond) ∈ tb_G := tb_in (List.mem_of_getElem? (i := 407) (by decide +kernel)) rfl
theorem tq_409 : (.laysFinal "PullSaw" "PullSaw" "reader" "LPullSaw$Reader;" : Cond) ∈ tb_G := tb_in (List.mem_of_getElem? (i := 409) (by decide +kernel)) rfl
theorem tq_411 : (.laysFinal "PullSaw" "PullSaw" "now" "LPullSaw$Work;" : Cond) ∈ tb_G := tb_in (List.mem_of_getElem? (i := 411) (by decide +kernel)) rfl
theorem tq_413 : (.laysFinal "PullSaw" "PullSaw" "past" "LPullSaw$Past;" : Cond) ∈ tb_G := tb_in (List.mem_of_getElem? (i := 413) (by decide +kernel)) rfl
theorem tq_415 : (.laysFinal "PullSaw" "PullSaw" "trial" "LPullSaw$Trial;" : Cond) ∈ tb_G := tb_in (List.mem_of_getElem? (i := 415) (by decide +kernel)) rfl
theorem tq_417 : (.laysFinal "PullSaw" "PullSaw" "balance" "LPullSaw$Balance;" : Cond) ∈ tb_G := tb_in (List.mem_of_getElem? (i := 417) (by decide +kernel)) rfl
theorem tq_419 : (.laysFinal "PullSaw" "PullSaw" "seen" "LPullSaw$Sheet;" : Cond) ∈ tb_G := tb_in (List.mem_of_getElem? (i := 419) (by decide +kernel)) rfl
theorem tq_421 : (.laysFinal "PullSaw" "PullSaw" "book" "LPullSaw$Sheet;" : Cond) ∈ tb_G := tb_in (List.mem_of_getElem? (i := 421) (by decide +kernel)) rfl
theorem tq_423 : (.laysFinal "PullSaw" "PullSaw" "first" "LPullSaw$Image;" : Cond) ∈ tb_G := tb_in (List.mem_of_getElem? (i := 423) (by decide +kernel)) rfl
theorem tq_425 : (.laysFinal "PullSaw" "PullSaw" "second" "LPullSaw$Image;" : Cond) ∈ tb_G := tb_in (List.mem_of_getElem? (i := 425) (by decide +kernel)) rfl
theorem tq_427 : (.lays "PullSaw" "PullSaw" "seed" "I" : Cond) ∈ tb_G := tb_in (List.mem_of_getElem? (i := 427) (by decide +kernel)) rfl
theorem tq_430 : (.methodLink "PullSawLaw" 13 ⟨"PullSaw", "feed", "(I)I"⟩ : Cond) ∈ tb_G := tb_in (List.mem_of_getElem? (i := 430) (by decide +kernel)) rfl
theorem tq_431 : (.instanceMethod ⟨"PullSaw", "feed", "(I)I"⟩ : Cond) ∈ tb_G := tb_in (List.mem_of_getElem? (i := 431) (by decide +kernel)) rfl
theorem tq_432 : (.selects "PullSaw" ⟨"PullSaw", "feed", "(I)I"⟩ ⟨"PullSaw", "feed", "(I)I"⟩ : Cond) ∈ tb_G := tb_in (List.mem_of_getElem? (i := 432) (by decide +kernel)) rfl
set_option maxRecDepth 100000 in
theorem tq_433 : (.code ⟨"PullSaw", "feed", "(I)I"⟩ prog_1_method_2_code 2 (some .int) : Cond) ∈ tb_G := tb_in (List.mem_of_getElem? (i := 433) rfl) rfl
theorem tq_434 : (.constant "PullSaw" 73 (-1000000002 : Int32) : Cond) ∈ tb_G := tb_in (List.mem_of_getElem? (i := 434) (by decide +kernel)) rfl
theorem tq_435 : (.methodLink "PullSaw" 77 ⟨"PullSaw$Sheet", "add", "(I)Z"⟩ : Cond) ∈ tb_G := tb_in (List.mem_of_getElem? (i := 435) (by decide +kernel)) rfl
theorem tq_436 : (.instanceMethod ⟨"PullSaw$Sheet", "add", "(I)Z"⟩ : Cond) ∈ tb_G := tb_in (List.mem_of_getElem? (i := 436) (by decide +kernel)) rfl
theorem tq_437 : (.selects "PullSaw$Sheet" ⟨"PullSaw$Sheet", "add", "(I)Z"⟩ ⟨"PullSaw$Sheet", "add", "(I)Z"⟩ : Cond) ∈ tb_G := tb_in (List.mem_of_getElem? (i := 437) (by decide +kernel)) rfl
set_option maxRecDepth 100000 in
theorem tq_438 : (.code ⟨"PullSaw$Sheet", "add", "(I)Z"⟩ prog_7_method_2_code 2 (some .boolean) : Cond) ∈ tb_G := tb_in (List.mem_of_getElem? (i := 438) rfl) rfl
theorem tq_439 : (.methodLink "PullSaw$Sheet" 25 ⟨"PullSaw$Row", "put", "([III)V"⟩ : Cond) ∈ tb_G := tb_in (List.mem_of_getElem? (i := 439) (by decide +kernel)) rfl
theorem tq_440 : (.static ⟨"PullSaw$Row", "put", "([III)V"⟩ : Cond) ∈ tb_G := tb_in (List.mem_of_getElem? (i := 440) (by decide +kernel)) rfl
set_option maxRecDepth 100000 in
theorem tq_441 : (.code ⟨"PullSaw$Row", "put", "([III)V"⟩ prog_6_method_3_code 3 none : Cond) ∈ tb_G := tb_in (List.mem_of_getElem? (i := 441) rfl) rfl
theorem tq_442 : (.constant "PullSaw" 85 (-1000000004 : Int32) : Cond) ∈ tb_G := tb_in (List.mem_of_getElem? (i := 442) (by decide +kernel)) rfl
theorem tq_443 : (.methodLink "PullSawLaw" 18 ⟨"PullSaw", "yard", "()I"⟩ : Cond) ∈ tb_G := tb_in (List.mem_of_getElem? (i := 443) (by decide +kernel)) rfl
theorem tq_444 : (.instanceMethod ⟨"PullSaw", "yard", "()I"⟩ : Cond) ∈ tb_G := tb_in (List.mem_of_getElem? (i := 444) (by decide +kernel)) rfl
theorem tq_445 : (.selects "PullSaw" ⟨"PullSaw", "yard", "()I"⟩ ⟨"PullSaw", "yard", "()I"⟩ : Cond) ∈ tb_G := tb_in (List.mem_of_getElem? (i := 445) (by decide +kernel)) rfl
set_option maxRecDepth 100000 in
theorem tq_446 : (.code ⟨"PullSaw", "yard", "()I"⟩ prog_1_method_3_code 1 (some .int) : Cond) ∈ tb_G := tb_in (List.mem_of_getElem? (i := 446) rfl) rfl
theorem tq_447 : (.methodLink "PullSaw" 86 ⟨"PullSaw$Reader", "readText", "()V"⟩ : Cond) ∈ tb_G := tb_in (List.mem_of_getElem? (i := 447) (by decide +kernel)) rfl
theorem tq_448 : (.instanceMethod ⟨"PullSaw$Reader", "readText", "()V"⟩ : Cond) ∈ tb_G := tb_in (List.mem_of_getElem? (i := 448) (by decide +kernel)) rfl
theorem tq_449 : (.selects "PullSaw$Reader" ⟨"PullSaw$Reader", "readText", "()V"⟩ ⟨"PullSaw$Reader", "readText", "()V"⟩ : Cond) ∈ tb_G := tb_in (List.mem_of_getElem? (i := 449) (by decide +kernel)) rfl
set_option maxRecDepth 100000 in
theorem tq_450 : (.code ⟨"PullSaw$Reader", "readText", "()V"⟩ prog_5_method_2_code 2 none : Cond) ∈ tb_G := tb_in (List.mem_of_getElem? (i := 450) rfl) rfl
theorem tq_451 : (.methodLink "PullSaw$Reader" 31 ⟨"PullSaw$Yard", "clear", "()V"⟩ : Cond) ∈ tb_G := tb_in (List.mem_of_getElem? (i := 451) (by decide +kernel)) rfl
theorem tq_452 : (.instanceMethod ⟨"PullSaw$Yard", "clear", "()V"⟩ : Cond) ∈ tb_G := tb_in (List.mem_of_getElem? (i := 452) (by decide +kernel)) rfl
theorem tq_453 : (.selects "PullSaw$Yard" ⟨"PullSaw$Yard", "clear", "()V"⟩ ⟨"PullSaw$Yard", "clear", "()V"⟩ : Cond) ∈ tb_G := tb_in (List.mem_of_getElem? (i := 453) (by decide +kernel)) rfl
set_option maxRecDepth 100000 in
theorem tq_454 : (.code ⟨"PullSaw$Yard", "clear", "()V"⟩ prog_10_method_2_code 1 none : Cond) ∈ tb_G := tb_in (List.mem_of_getElem? (i := 454) rfl) rfl
theorem tq_455 : (.methodLink "PullSaw$Reader" 47 ⟨"PullSaw$Reader", "skipBlanks", "()V"⟩ : Cond) ∈ tb_G := tb_in (List.mem_of_getElem? (i := 455) (by decide +kernel)) rfl
theorem tq_457 : (.instanceMethod ⟨"PullSaw$Reader", "skipBlanks", "()V"⟩ : Cond) ∈ tb_G := tb_in (List.mem_of_getElem? (i := 457) (by decide +kernel)) rfl
set_option maxRecDepth 100000 in
theorem tq_458 : (.code ⟨"PullSaw$Reader", "skipBlanks", "()V"⟩ prog_5_method_10_code 2 none : Cond) ∈ tb_G := tb_in (List.mem_of_getElem? (i := 458) rfl) rfl
theorem tq_459 : (.methodLink "PullSaw$Reader" 57 ⟨"PullSaw$Sheet", "mark", "(I)I"⟩ : Cond) ∈ tb_G := tb_in (List.mem_of_getElem? (i := 459) (by decide +kernel)) rfl
theorem tq_460 : (.instanceMethod ⟨"PullSaw$Sheet", "mark", "(I)I"⟩ : Cond) ∈ tb_G := tb_in (List.mem_of_getElem? (i := 460) (by decide +kernel)) rfl
theorem tq_461 : (.selects "PullSaw$Sheet" ⟨"PullSaw$Sheet", "mark", "(I)I"⟩ ⟨"PullSaw$Sheet", "mark", "(I)I"⟩ : Cond) ∈ tb_G := tb_in (List.mem_of_getElem? (i := 461) (by decide +kernel)) rfl
set_option maxRecDepth 100000 in
theorem tq_462 : (.code ⟨"PullSaw$Sheet", "mark", "(I)I"⟩ prog_7_method_3_code 2 (some .int) : Cond) ∈ tb_G := tb_in (List.mem_of_getElem? (i := 462) rfl) rfl
theorem tq_463 : (.methodLink "PullSaw$Reader" 53 ⟨"PullSaw$Reader", "readClause", "()V"⟩ : Cond) ∈ tb_G := tb_in (List.mem_of_getElem? (i := 463) (by decide +kernel)) rfl
theorem tq_465 : (.instanceMethod ⟨"PullSaw$Reader", "readClause", "()V"⟩ : Cond) ∈ tb_G := tb_in (List.mem_of_getElem? (i := 465) (by decide +kernel)) rfl
set_option maxRecDepth 100000 in
theorem tq_466 : (.code ⟨"PullSaw$Reader", "readClause", "()V"⟩ prog_5_method_3_code 3 none : Cond) ∈ tb_G := tb_in (List.mem_of_getElem? (i := 466) rfl) rfl
theorem tq_467 : (.methodLink "PullSaw$Reader" 61 ⟨"PullSaw$Reader", "faultOfWord", "(I)I"⟩ : Cond) ∈ tb_G := tb_in (List.mem_of_getElem? (i := 467) (by decide +kernel)) rfl
theorem tq_469 : (.instanceMethod ⟨"PullSaw$Reader", "faultOfWord", "(I)I"⟩ : Cond) ∈ tb_G := tb_in (List.mem_of_getElem? (i := 469) (by decide +kernel)) rfl
set_option maxRecDepth 100000 in
theorem tq_470 : (.code ⟨"PullSaw$Reader", "faultOfWord", "(I)I"⟩ prog_5_method_4_code 4 (some .int) : Cond) ∈ tb_G := tb_in (List.mem_of_getElem? (i := 470) rfl) rfl
theorem tq_471 : (.methodLink "PullSaw$Reader" 64 ⟨"PullSaw$Reader", "markFault", "(II)V"⟩ : Cond) ∈ tb_G := tb_in (List.mem_of_getElem? (i := 471) (by decide +kernel)) rfl
theorem tq_473 : (.instanceMethod ⟨"PullSaw$Reader", "markFault", "(II)V"⟩ : Cond) ∈ tb_G := tb_in (List.mem_of_getElem? (i := 473) (by decide +kernel)) rfl
set_option maxRecDepth 100000 in
theorem tq_474 : (.code ⟨"PullSaw$Reader", "markFault", "(II)V"⟩ prog_5_method_12_code 3 none : Cond) ∈ tb_G := tb_in (List.mem_of_getElem? (i := 474) rfl) rfl
theorem tq_475 : (.methodLink "PullSaw$Reader" 68 ⟨"PullSaw$Reader", "readLayers", "()V"⟩ : Cond) ∈ tb_G := tb_in (List.mem_of_getElem? (i := 475) (by decide +kernel)) rfl
theorem tq_477 : (.instanceMethod ⟨"PullSaw$Reader", "readLayers", "()V"⟩ : Cond) ∈ tb_G := tb_in (List.mem_of_getElem? (i := 477) (by decide +kernel)) rfl
set_option maxRecDepth 100000 in
theorem tq_478 : (.code ⟨"PullSaw$Reader", "readLayers", "()V"⟩ prog_5_method_5_code 2 none : Cond) ∈ tb_G := tb_in (List.mem_of_getElem? (i := 478) rfl) rfl
theorem tq_479 : (.methodLink "PullSaw$Reader" 77 ⟨"PullSaw$Reader", "readNumber", "(II)I"⟩ : Cond) ∈ tb_G := tb_in (List.mem_of_getElem? (i := 479) (by decide +kernel)) rfl
theorem tq_481 : (.instanceMethod ⟨"PullSaw$Reader", "readNumber", "(II)I"⟩ : Cond) ∈ tb_G := tb_in (List.mem_of_getElem? (i := 481) (by decide +kernel)) rfl
set_option maxRecDepth 100000 in
theorem tq_482 : (.code ⟨"PullSaw$Reader", "readNumber", "(II)I"⟩ prog_5_method_9_code 6 (some .int) : Cond) ∈ tb_G := tb_in (List.mem_of_getElem? (i := 482) rfl) rfl
theorem tq_483 : (.methodLink "PullSaw$Reader" 127 ⟨"PullSaw$Reader", "isFigure", "(I)Z"⟩ : Cond) ∈ tb_G := tb_in (List.mem_of_getElem? (i := 483) (by decide +kernel)) rfl
theorem tq_484 : (.static ⟨"PullSaw$Reader", "isFigure", "(I)Z"⟩ : Cond) ∈ tb_G := tb_in (List.mem_of_getElem? (i := 484) (by decide +kernel)) rfl
set_option maxRecDepth 100000 in
theorem tq_485 : (.code ⟨"PullSaw$Reader", "isFigure", "(I)Z"⟩ prog_5_method_11_code 1 (some .boolean) : Cond) ∈ tb_G := tb_in (List.mem_of_getElem? (i := 485) rfl) rfl
theorem tq_486 : (.methodLink "PullSaw$Reader" 97 ⟨"PullSaw$Row", "put", "([III)V"⟩ : Cond) ∈ tb_G := tb_in (List.mem_of_getElem? (i := 486) (by decide +kernel)) rfl
theorem tq_487 : (.methodLink "PullSaw$Reader" 84 ⟨"PullSaw$Reader", "readEnd", "()V"⟩ : Cond) ∈ tb_G := tb_in (List.mem_of_getElem? (i := 487) (by decide +kernel)) rfl
theorem tq_489 : (.instanceMethod ⟨"PullSaw$Reader", "readEnd", "()V"⟩ : Cond) ∈ tb_G := tb_in (List.mem_of_getElem? (i := 489) (by decide +kernel)) rfl
set_option maxRecDepth 100000 in
theorem tq_490 : (.code ⟨"PullSaw$Reader", "readEnd", "()V"⟩ prog_5_method_8_code 1 none : Cond) ∈ tb_G := tb_in (List.mem_of_getElem? (i := 490) rfl) rfl
theorem tq_491 : (.methodLink "PullSaw$Reader" 71 ⟨"PullSaw$Reader", "readPerson", "()V"⟩ : Cond) ∈ tb_G := tb_in (List.mem_of_getElem? (i := 491) (by decide +kernel)) rfl
theorem tq_493 : (.instanceMethod ⟨"PullSaw$Reader", "readPerson", "()V"⟩ : Cond) ∈ tb_G := tb_in (List.mem_of_getElem? (i := 493) (by decide +kernel)) rfl
set_option maxRecDepth 100000 in
theorem tq_494 : (.code ⟨"PullSaw$Reader", "readPerson", "()V"⟩ prog_5_method_6_code 2 none : Cond) ∈ tb_G := tb_in (List.mem_of_getElem? (i := 494) rfl) rfl
theorem tq_495 : (.methodLink "PullSaw$Reader" 74 ⟨"PullSaw$Reader", "readSaw", "()V"⟩ : Cond) ∈ tb_G := tb_in (List.mem_of_getElem? (i := 495) (by decide +kernel)) rfl
theorem tq_497 : (.instanceMethod ⟨"PullSaw$Reader", "readSaw", "()V"⟩ : Cond) ∈ tb_G := tb_in (List.mem_of_getElem? (i := 497) (by decide +kernel)) rfl
set_option maxRecDepth 100000 in
theorem tq_498 : (.code ⟨"PullSaw$Reader", "readSaw", "()V"⟩ prog_5_method_7_code 1 none : Cond) ∈ tb_G := tb_in (List.mem_of_getElem? (i := 498) rfl) rfl
theorem tq_499 : (.methodLink "PullSaw$Reader" 56 ⟨"PullSaw$Sheet", "clear", "()V"⟩ : Cond) ∈ tb_G := tb_in (List.mem_of_getElem? (i := 499) (by decide +kernel)) rfl
theorem tq_500 : (.instanceMethod ⟨"PullSaw$Sheet", "clear", "()V"⟩ : Cond) ∈ tb_G := tb_in (List.mem_of_getElem? (i := 500) (by decide +kernel)) rfl
theorem tq_501 : (.selects "PullSaw$Sheet" ⟨"PullSaw$Sheet", "clear", "()V"⟩ ⟨"PullSaw$Sheet", "clear", "()V"⟩ : Cond) ∈ tb_G := tb_in (List.mem_of_getElem? (i := 501) (by decide +kernel)) rfl
set_option maxRecDepth 100000 in
theorem tq_502 : (.code ⟨"PullSaw$Sheet", "clear", "()V"⟩ prog_7_method_4_code 1 none : Cond) ∈ tb_G := tb_in (List.mem_of_getElem? (i := 502) rfl) rfl
theorem tq_503 : (.methodLink "PullSaw" 95 ⟨"PullSaw$Yard", "become", "(LPullSaw$Yard;)V"⟩ : Cond) ∈ tb_G := tb_in (List.mem_of_getElem? (i := 503) (by decide +kernel)) rfl
theorem tq_504 : (.instanceMethod ⟨"PullSaw$Yard", "become", "(LPullSaw$Yard;)V"⟩ : Cond) ∈ tb_G := tb_in (List.mem_of_getElem? (i := 504) (by decide +kernel)) rfl
theorem tq_505 : (.selects "PullSaw$Yard" ⟨"PullSaw$Yard", "become", "(LPullSaw$Yard;)V"⟩ ⟨"PullSaw$Yard", "become", "(LPullSaw$Yard;)V"⟩ : Cond) ∈ tb_G := tb_in (List.mem_of_getElem? (i := 505) (by decide +kernel)) rfl
set_option maxRecDepth 100000 in
theorem tq_506 : (.code ⟨"PullSaw$Yard", "become", "(LPullSaw$Yard;)V"⟩ prog_10_method_3_code 2 none : Cond) ∈ tb_G := tb_in (List.mem_of_getElem? (i := 506) rfl) rfl
theorem tq_507 : (.methodLink "PullSaw$Yard" 49 ⟨"PullSaw$Row", "copy", "([I[I)V"⟩ : Cond) ∈ tb_G := tb_in (List.mem_of_getElem? (i := 507) (by decide +kernel)) rfl
theorem tq_508 : (.static ⟨"PullSaw$Row", "copy", "([I[I)V"⟩ : Cond) ∈ tb_G := tb_in (List.mem_of_getElem? (i := 508) (by decide +kernel)) rfl
set_option maxRecDepth 100000 in
theorem tq_509 : (.code ⟨"PullSaw$Row", "copy", "([I[I)V"⟩ prog_6_method_4_code 3 none : Cond) ∈ tb_G := tb_in (List.mem_of_getElem? (i := 509) rfl) rfl
theorem tq_510 : (.methodLink "PullSaw" 99 ⟨"PullSaw$Work", "startYard", "(LPullSaw$Yard;)V"⟩ : Cond) ∈ tb_G := tb_in (List.mem_of_getElem? (i := 510) (by decide +kernel)) rfl
theorem tq_511 : (.instanceMethod ⟨"PullSaw$Work", "startYard", "(LPullSaw$Yard;)V"⟩ : Cond) ∈ tb_G := tb_in (List.mem_of_getElem? (i := 511) (by decide +kernel)) rfl
theorem tq_512 : (.selects "PullSaw$Work" ⟨"PullSaw$Work", "startYard", "(LPullSaw$Yard;)V"⟩ ⟨"PullSaw$Work", "startYard", "(LPullSaw$Yard;)V"⟩ : Cond) ∈ tb_G := tb_in (List.mem_of_getElem? (i := 512) (by decide +kernel)) rfl
set_option maxRecDepth 100000 in
theorem tq_513 : (.code ⟨"PullSaw$Work", "startYard", "(LPullSaw$Yard;)V"⟩ prog_9_method_3_code 2 none : Cond) ∈ tb_G := tb_in (List.mem_of_getElem? (i := 513) rfl) rfl
theorem tq_514 : (.methodLink "PullSaw$Work" 59 ⟨"PullSaw$Work", "startLog", "(II)V"⟩ : Cond) ∈ tb_G := tb_in (List.mem_of_getElem? (i := 514) (by decide +kernel)) rfl
theorem tq_515 : (.instanceMethod ⟨"PullSaw$Work", "startLog", "(II)V"⟩ : Cond) ∈ tb_G := tb_in (List.mem_of_getElem? (i := 515) (by decide +kernel)) rfl
theorem tq_516 : (.selects "PullSaw$Work" ⟨"PullSaw$Work", "startLog", "(II)V"⟩ ⟨"PullSaw$Work", "startLog", "(II)V"⟩ : Cond) ∈ tb_G := tb_in (List.mem_of_getElem? (i := 516) (by decide +kernel)) rfl
set_option maxRecDepth 100000 in
theorem tq_517 : (.code ⟨"PullSaw$Work", "startLog", "(II)V"⟩ prog_9_method_4_code 3 none : Cond) ∈ tb_G := tb_in (List.mem_of_getElem? (i := 517) rfl) rfl
theorem tq_518 : (.methodLink "PullSaw$Work" 72 ⟨"PullSaw$Row", "fill", "([II)V"⟩ : Cond) ∈ tb_G := tb_in (List.mem_of_getElem? (i := 518) (by decide +kernel)) rfl
theorem tq_519 : (.static ⟨"PullSaw$Row", "fill", "([II)V"⟩ : Cond) ∈ tb_G := tb_in (List.mem_of_getElem? (i := 519) (by decide +kernel)) rfl
set_option maxRecDepth 100000 in
theorem tq_520 : (.code ⟨"PullSaw$Row", "fill", "([II)V"⟩ prog_6_method_5_code 3 none : Cond) ∈ tb_G := tb_in (List.mem_of_getElem? (i := 520) rfl) rfl
theorem tq_521 : (.methodLink "PullSaw$Work" 53 ⟨"PullSaw$Row", "copy", "([I[I)V"⟩ : Cond) ∈ tb_G := tb_in (List.mem_of_getElem? (i := 521) (by decide +kernel)) rfl
theorem tq_522 : (.methodLink "PullSaw" 102 ⟨"PullSaw$Sheet", "clear", "()V"⟩ : Cond) ∈ tb_G := tb_in (List.mem_of_getElem? (i := 522) (by decide +kernel)) rfl
theorem tq_523 : (.methodLink "PullSaw" 105 ⟨"PullSaw$Past", "clear", "()V"⟩ : Cond) ∈ tb_G := tb_in (List.mem_of_getElem? (i := 523) (by decide +kernel)) rfl
theorem tq_524 : (.instanceMethod ⟨"PullSaw$Past", "clear", "()V"⟩ : Cond) ∈ tb_G := tb_in (List.mem_of_getElem? (i := 524) (by decide +kernel)) rfl
theorem tq_525 : (.selects "PullSaw$Past" ⟨"PullSaw$Past", "clear", "()V"⟩ ⟨"PullSaw$Past", "clear", "()V"⟩ : Cond) ∈ tb_G := tb_in (List.mem_of_getElem? (i := 525) (by decide +kernel)) rfl
set_option maxRecDepth 100000 in
theorem tq_526 : (.code ⟨"PullSaw$Past", "clear", "()V"⟩ prog_4_method_2_code 1 none : Cond) ∈ tb_G := tb_in (List.mem_of_getElem? (i := 526) rfl) rfl
theorem tq_527 : (.methodLink "PullSawLaw" 23 ⟨"PullSaw", "fault", "()I"⟩ : Cond) ∈ tb_G := tb_in (List.mem_of_getElem? (i := 527) (by decide +kernel)) rfl
theorem tq_528 : (.instanceMethod ⟨"PullSaw", "fault", "()I"⟩ : Cond) ∈ tb_G := tb_in (List.mem_of_getElem? (i := 528) (by decide +kernel)) rfl
theorem tq_529 : (.selects "PullSaw" ⟨"PullSaw", "fault", "()I"⟩ ⟨"PullSaw", "fault", "()I"⟩ : Cond) ∈ tb_G := tb_in (List.mem_of_getElem? (i := 529) (by decide +kernel)) rfl
set_option maxRecDepth 100000 in
theorem tq_530 : (.code ⟨"PullSaw", "fault", "()I"⟩ prog_1_method_4_code 1 (some .int) : Cond) ∈ tb_G := tb_in (List.mem_of_getElem? (i := 530) rfl) rfl
theorem tq_531 : (.methodLink "PullSawLaw" 27 ⟨"PullSaw", "told", "(I)I"⟩ : Cond) ∈ tb_G := tb_in (List.mem_of_getElem? (i := 531) (by decide +kernel)) rfl
theorem tq_532 : (.instanceMethod ⟨"PullSaw", "told", "(I)I"⟩ : Cond) ∈ tb_G := tb_in (List.mem_of_getElem? (i := 532) (by decide +kernel)) rfl
theorem tq_533 : (.selects "PullSaw" ⟨"PullSaw", "told", "(I)I"⟩ ⟨"PullSaw", "told", "(I)I"⟩ : Cond) ∈ tb_G := tb_in (List.mem_of_getElem? (i := 533) (by decide +kernel)) rfl
set_option maxRecDepth 100000 in
theorem tq_534 : (.code ⟨"PullSaw", "told", "(I)I"⟩ prog_1_method_5_code 2 (some .int) : Cond) ∈ tb_G := tb_in (List.mem_of_getElem? (i := 534) rfl) rfl
theorem tq_535 : (.methodLink "PullSaw" 155 ⟨"PullSaw$Work", "isThrough", "(LPullSaw$Yard;)Z"⟩ : Cond) ∈ tb_G := tb_in (List.mem_of_getElem? (i := 535) (by decide +kernel)) rfl
theorem tq_536 : (.instanceMethod ⟨"PullSaw$Work", "isThrough", "(LPullSaw$Yard;)Z"⟩ : Cond) ∈ tb_G := tb_in (List.mem_of_getElem? (i := 536) (by decide +kernel)) rfl
theorem tq_537 : (.selects "PullSaw$Work" ⟨"PullSaw$Work", "isThrough", "(LPullSaw$Yard;)Z"⟩ ⟨"PullSaw$Work", "isThrough", "(LPullSaw$Yard;)Z"⟩ : Cond) ∈ tb_G := tb_in (List.mem_of_getElem? (i := 537) (by decide +kernel)) rfl
set_option maxRecDepth 100000 in
theorem tq_538 : (.code ⟨"PullSaw$Work", "isThrough", "(LPullSaw$Yard;)Z"⟩ prog_9_method_6_code 2 (some .boolean) : Cond) ∈ tb_G := tb_in (List.mem_of_getElem? (i := 538) rfl) rfl
theorem tq_539 : (.methodLink "PullSaw$Work" 79 ⟨"PullSaw$Yard", "bottom", "()I"⟩ : Cond) ∈ tb_G := tb_in (List.mem_of_getElem? (i := 539) (by decide +kernel)) rfl
theorem tq_540 : (.instanceMethod ⟨"PullSaw$Yard", "bottom", "()I"⟩ : Cond) ∈ tb_G := tb_in (List.mem_of_getElem? (i := 540) (by decide +kernel)) rfl
theorem tq_541 : (.selects "PullSaw$Yard" ⟨"PullSaw$Yard", "bottom", "()I"⟩ ⟨"PullSaw$Yard", "bottom", "()I"⟩ : Cond) ∈ tb_G := tb_in (List.mem_of_getElem? (i := 541) (by decide +kernel)) rfl
set_option maxRecDepth 100000 in
theorem tq_542 : (.code ⟨"PullSaw$Yard", "bottom", "()I"⟩ prog_10_method_6_code 1 (some .int) : Cond) ∈ tb_G := tb_in (List.mem_of_getElem? (i := 542) rfl) rfl
theorem tq_543 : (.methodLink "PullSawLaw" 31 ⟨"PullSaw", "wood", "(I)I"⟩ : Cond) ∈ tb_G := tb_in (List.mem_of_getElem? (i := 543) (by decide +kernel)) rfl
theorem tq_544 : (.instanceMethod ⟨"PullSaw", "wood", "(I)I"⟩ : Cond) ∈ tb_G := tb_in (List.mem_of_getElem? (i := 544) (by decide +kernel)) rfl
theorem tq_545 : (.selects "PullSaw" ⟨"PullSaw", "wood", "(I)I"⟩ ⟨"PullSaw", "wood", "(I)I"⟩ : Cond) ∈ tb_G := tb_in (List.mem_of_getElem? (i := 545) (by decide +kernel)) rfl
set_option maxRecDepth 100000 in
theorem tq_546 : (.code ⟨"PullSaw", "wood", "(I)I"⟩ prog_1_method_6_code 2 (some .int) : Cond) ∈ tb_G := tb_in (List.mem_of_getElem? (i := 546) rfl) rfl
theorem tq_547 : (.constant "PullSaw" 160 (-1000000001 : Int32) : Cond) ∈ tb_G := tb_in (List.mem_of_getElem? (i := 547) (by decide +kernel)) rfl
theorem tq_548 : (.methodLink "PullSaw" 165 ⟨"PullSaw$Row", "at", "([II)I"⟩ : Cond) ∈ tb_G := tb_in (List.mem_of_getElem? (i := 548) (by decide +kernel)) rfl
theorem tq_549 : (.static ⟨"PullSaw$Row", "at", "([II)I"⟩ : Cond) ∈ tb_G := tb_in (List.mem_of_getElem? (i := 549) (by decide +kernel)) rfl
set_option maxRecDepth 100000 in
theorem tq_550 : (.code ⟨"PullSaw$Row", "at", "([II)I"⟩ prog_6_method_2_code 2 (some .int) : Cond) ∈ tb_G := tb_in (List.mem_of_getElem? (i := 550) rfl) rfl
theorem tq_551 : (.methodLink "PullSawLaw" 35 ⟨"PullSaw", "person", "(II)I"⟩ : Cond) ∈ tb_G := tb_in (List.mem_of_getElem? (i := 551) (by decide +kernel)) rfl
theorem tq_552 : (.instanceMethod ⟨"PullSaw", "person", "(II)I"⟩ : Cond) ∈ tb_G := tb_in (List.mem_of_getElem? (i := 552) (by decide +kernel)) rfl
theorem tq_553 : (.selects "PullSaw" ⟨"PullSaw", "person", "(II)I"⟩ ⟨"PullSaw", "person", "(II)I"⟩ : Cond) ∈ tb_G := tb_in (List.mem_of_getElem? (i := 553) (by decide +kernel)) rfl
set_option maxRecDepth 100000 in
theorem tq_554 : (.code ⟨"PullSaw", "person", "(II)I"⟩ prog_1_method_7_code 3 (some .int) : Cond) ∈ tb_G := tb_in (List.mem_of_getElem? (i := 554) rfl) rfl
theorem tq_555 : (.methodLink "PullSaw" 171 ⟨"PullSaw$Yard", "hasPerson", "(I)Z"⟩ : Cond) ∈ tb_G := tb_in (List.mem_of_getElem? (i := 555) (by decide +kernel)) rfl
theorem tq_556 : (.instanceMethod ⟨"PullSaw$Yard", "hasPerson", "(I)Z"⟩ : Cond) ∈ tb_G := tb_in (List.mem_of_getElem? (i := 556) (by decide +kernel)) rfl
theorem tq_557 : (.selects "PullSaw$Yard" ⟨"PullSaw$Yard", "hasPerson", "(I)Z"⟩ ⟨"PullSaw$Yard", "hasPerson", "(I)Z"⟩ : Cond) ∈ tb_G := tb_in (List.mem_of_getElem? (i := 557) (by decide +kernel)) rfl
set_option maxRecDepth 100000 in
theorem tq_558 : (.code ⟨"PullSaw$Yard", "hasPerson", "(I)Z"⟩ prog_10_method_4_code 2 (some .boolean) : Cond) ∈ tb_G := tb_in (List.mem_of_getElem? (i := 558) rfl) rfl
theorem tq_559 : (.methodLink "PullSawLaw" 40 ⟨"PullSaw", "log", "(II)I"⟩ : Cond) ∈ tb_G := tb_in (List.mem_of_getElem? (i := 559) (by decide +kernel)) rfl
theorem tq_560 : (.instanceMethod ⟨"PullSaw", "log", "(II)I"⟩ : Cond) ∈ tb_G := tb_in (List.mem_of_getElem? (i := 560) (by decide +kernel)) rfl
theorem tq_561 : (.selects "PullSaw" ⟨"PullSaw", "log", "(II)I"⟩ ⟨"PullSaw", "log", "(II)I"⟩ : Cond) ∈ tb_G := tb_in (List.mem_of_getElem? (i := 561) (by decide +kernel)) rfl
set_option maxRecDepth 100000 in
theorem tq_562 : (.code ⟨"PullSaw", "log", "(II)I"⟩ prog_1_method_8_code 4 (some .int) : Cond) ∈ tb_G := tb_in (List.mem_of_getElem? (i := 562) rfl) rfl
theorem tq_563 : (.methodLink "PullSaw" 198 ⟨"PullSaw", "refusalOfTwo", "(II)I"⟩ : Cond) ∈ tb_G := tb_in (List.mem_of_getElem? (i := 563) (by decide +kernel)) rfl
theorem tq_565 : (.instanceMethod ⟨"PullSaw", "refusalOfTwo", "(II)I"⟩ : Cond) ∈ tb_G := tb_in (List.mem_of_getElem? (i := 565) (by decide +kernel)) rfl
set_option maxRecDepth 100000 in
theorem tq_566 : (.code ⟨"PullSaw", "refusalOfTwo", "(II)I"⟩ prog_1_method_39_code 3 (some .int) : Cond) ∈ tb_G := tb_in (List.mem_of_getElem? (i := 566) rfl) rfl
theorem tq_567 : (.methodLink "PullSaw" 255 ⟨"PullSaw$Yard", "hasTwo", "(II)Z"⟩ : Cond) ∈ tb_G := tb_in (List.mem_of_getElem? (i := 567) (by decide +kernel)) rfl
theorem tq_568 : (.instanceMethod ⟨"PullSaw$Yard", "hasTwo", "(II)Z"⟩ : Cond) ∈ tb_G := tb_in (List.mem_of_getElem? (i := 568) (by decide +kernel)) rfl
theorem tq_569 : (.selects "PullSaw$Yard" ⟨"PullSaw$Yard", "hasTwo", "(II)Z"⟩ ⟨"PullSaw$Yard", "hasTwo", "(II)Z"⟩ : Cond) ∈ tb_G := tb_in (List.mem_of_getElem? (i := 569) (by decide +kernel)) rfl
set_option maxRecDepth 100000 in
theorem tq_570 : (.code ⟨"PullSaw$Yard", "hasTwo", "(II)Z"⟩ prog_10_method_5_code 3 (some .boolean) : Cond) ∈ tb_G := tb_in (List.mem_of_getElem? (i := 570) rfl) rfl
theorem tq_571 : (.methodLink "PullSaw$Yard" 55 ⟨"PullSaw$Yard", "hasPerson", "(I)Z"⟩ : Cond) ∈ tb_G := tb_in (List.mem_of_getElem? (i := 571) (by decide +kernel)) rfl
theorem tq_572 : (.constant "PullSaw" 225 (-1000000003 : Int32) : Cond) ∈ tb_G := tb_in (List.mem_of_getElem? (i := 572) (by decide +kernel)) rfl
theorem tq_573 : (.methodLink "PullSaw" 202 ⟨"PullSaw$Work", "startLog", "(II)V"⟩ : Cond) ∈ tb_G := tb_in (List.mem_of_getElem? (i := 573) (by decide +kernel)) rfl
theorem tq_574 : (.methodLink "PullSawLaw" 44 ⟨"PullSaw", "stroke", "(I)I"⟩ : Cond) ∈ tb_G := tb_in (List.mem_of_getElem? (i := 574) (by decide +kernel)) rfl
theorem tq_575 : (.instanceMethod ⟨"PullSaw", "stroke", "(I)I"⟩ : Cond) ∈ tb_G := tb_in (List.mem_of_getElem? (i := 575) (by decide +kernel)) rfl
theorem tq_576 : (.selects "PullSaw" ⟨"PullSaw", "stroke", "(I)I"⟩ ⟨"PullSaw", "stroke", "(I)I"⟩ : Cond) ∈ tb_G := tb_in (List.mem_of_getElem? (i := 576) (by decide +kernel)) rfl
set_option maxRecDepth 100000 in
theorem tq_577 : (.code ⟨"PullSaw", "stroke", "(I)I"⟩ prog_1_method_9_code 5 (some .int) : Cond) ∈ tb_G := tb_in (List.mem_of_getElem? (i := 577) rfl) rfl
theorem tq_578 : (.methodLink "PullSaw" 206 ⟨"PullSaw", "refusalOfSawing", "(I)I"⟩ : Cond) ∈ tb_G := tb_in (List.mem_of_getElem? (i := 578) (by decide +kernel)) rfl
theorem tq_580 : (.instanceMethod ⟨"PullSaw", "refusalOfSawing", "(I)I"⟩ : Cond) ∈ tb_G := tb_in (List.mem_of_getElem? (i := 580) (by decide +kernel)) rfl
set_option maxRecDepth 100000 in
theorem tq_581 : (.code ⟨"PullSaw", "refusalOfSawing", "(I)I"⟩ prog_1_method_40_code 2 (some .int) : Cond) ∈ tb_G := tb_in (List.mem_of_getElem? (i := 581) rfl) rfl
theorem tq_582 : (.methodLink "PullSaw" 229 ⟨"PullSaw", "isWithin", "(III)Z"⟩ : Cond) ∈ tb_G := tb_in (List.mem_of_getElem? (i := 582) (by decide +kernel)) rfl
theorem tq_583 : (.static ⟨"PullSaw", "isWithin", "(III)Z"⟩ : Cond) ∈ tb_G := tb_in (List.mem_of_getElem? (i := 583) (by decide +kernel)) rfl
set_option maxRecDepth 100000 in
theorem tq_584 : (.code ⟨"PullSaw", "isWithin", "(III)Z"⟩ prog_1_method_37_code 3 (some .boolean) : Cond) ∈ tb_G := tb_in (List.mem_of_getElem? (i := 584) rfl) rfl
theorem tq_585 : (.methodLink "PullSaw" 221 ⟨"PullSaw$Work", "hasPair", "()Z"⟩ : Cond) ∈ tb_G := tb_in (List.mem_of_getElem? (i := 585) (by decide +kernel)) rfl
theorem tq_586 : (.instanceMethod ⟨"PullSaw$Work", "hasPair", "()Z"⟩ : Cond) ∈ tb_G := tb_in (List.mem_of_getElem? (i := 586) (by decide +kernel)) rfl
theorem tq_587 : (.selects "PullSaw$Work" ⟨"PullSaw$Work", "hasPair", "()Z"⟩ ⟨"PullSaw$Work", "hasPair", "()Z"⟩ : Cond) ∈ tb_G := tb_in (List.mem_of_getElem? (i := 587) (by decide +kernel)) rfl
set_option maxRecDepth 100000 in
theorem tq_588 : (.code ⟨"PullSaw$Work", "hasPair", "()Z"⟩ prog_9_method_5_code 1 (some .boolean) : Cond) ∈ tb_G := tb_in (List.mem_of_getElem? (i := 588) rfl) rfl
theorem tq_589 : (.methodLink "PullSaw" 210 ⟨"PullSaw$Past", "remember", "(LPullSaw$Work;)V"⟩ : Cond) ∈ tb_G := tb_in (List.mem_of_getElem? (i := 589) (by decide +kernel)) rfl
theorem tq_590 : (.instanceMethod ⟨"PullSaw$Past", "remember", "(LPullSaw$Work;)V"⟩ : Cond) ∈ tb_G := tb_in (List.mem_of_getElem? (i := 590) (by decide +kernel)) rfl
theorem tq_591 : (.selects "PullSaw$Past" ⟨"PullSaw$Past", "remember", "(LPullSaw$Work;)V"⟩ ⟨"PullSaw$Past", "remember", "(LPullSaw$Work;)V"⟩ : Cond) ∈ tb_G := tb_in (List.mem_of_getElem? (i := 591) (by decide +kernel)) rfl
set_option maxRecDepth 100000 in
theorem tq_592 : (.code ⟨"PullSaw$Past", "remember", "(LPullSaw$Work;)V"⟩ prog_4_method_3_code 3 none : Cond) ∈ tb_G := tb_in (List.mem_of_getElem? (i := 592) rfl) rfl
theorem tq_593 : (.methodLink "PullSaw$Past" 25 ⟨"PullSaw$Past", "placeAt", "(I)LPullSaw$Work;"⟩ : Cond) ∈ tb_G := tb_in (List.mem_of_getElem? (i := 593) (by decide +kernel)) rfl
theorem tq_595 : (.instanceMethod ⟨"PullSaw$Past", "placeAt", "(I)LPullSaw$Work;"⟩ : Cond) ∈ tb_G := tb_in (List.mem_of_getElem? (i := 595) (by decide +kernel)) rfl
set_option maxRecDepth 100000 in
theorem tq_596 : (.code ⟨"PullSaw$Past", "placeAt", "(I)LPullSaw$Work;"⟩ prog_4_method_5_code 2 (some (.object "PullSaw$Work")) : Cond) ∈ tb_G := tb_in (List.mem_of_getElem? (i := 596) rfl) rfl
theorem tq_597 : (.methodLink "PullSaw$Past" 29 ⟨"PullSaw$Work", "become", "(LPullSaw$Work;)V"⟩ : Cond) ∈ tb_G := tb_in (List.mem_of_getElem? (i := 597) (by decide +kernel)) rfl
theorem tq_598 : (.instanceMethod ⟨"PullSaw$Work", "become", "(LPullSaw$Work;)V"⟩ : Cond) ∈ tb_G := tb_in (List.mem_of_getElem? (i := 598) (by decide +kernel)) rfl
theorem tq_599 : (.selects "PullSaw$Work" ⟨"PullSaw$Work", "become", "(LPullSaw$Work;)V"⟩ ⟨"PullSaw$Work", "become", "(LPullSaw$Work;)V"⟩ : Cond) ∈ tb_G := tb_in (List.mem_of_getElem? (i := 599) (by decide +kernel)) rfl
set_option maxRecDepth 100000 in
theorem tq_600 : (.code ⟨"PullSaw$Work", "become", "(LPullSaw$Work;)V"⟩ prog_9_method_2_code 2 none : Cond) ∈ tb_G := tb_in (List.mem_of_getElem? (i := 600) rfl) rfl
theorem tq_601 : (.methodLink "PullSaw$Past" 33 ⟨"java/lang/Math", "min", "(II)I"⟩ : Cond) ∈ tb_G := tb_in (List.mem_of_getElem? (i := 601) (by decide +kernel)) rfl
theorem tq_602 : (.static ⟨"java/lang/Math", "min", "(II)I"⟩ : Cond) ∈ tb_G := tb_in (List.mem_of_getElem? (i := 602) (by decide +kernel)) rfl
set_option maxRecDepth 100000 in
theorem tq_603 : (.code ⟨"java/lang/Math", "min", "(II)I"⟩ prog_14_method_69_code 2 (some .int) : Cond) ∈ tb_G := tb_in (List.mem_of_getElem? (i := 603) rfl) rfl
theorem tq_604 : (.methodLink "PullSaw" 214 ⟨"PullSaw$Work", "pullOnce", "(LPullSaw$Yard;)I"⟩ : Cond) ∈ tb_G := tb_in (List.mem_of_getElem? (i := 604) (by decide +kernel)) rfl
theorem tq_605 : (.instanceMethod ⟨"PullSaw$Work", "pullOnce", "(LPullSaw$Yard;)I"⟩ : Cond) ∈ tb_G := tb_in (List.mem_of_getElem? (i := 605) (by decide +kernel)) rfl
theorem tq_606 : (.selects "PullSaw$Work" ⟨"PullSaw$Work", "pullOnce", "(LPullSaw$Yard;)I"⟩ ⟨"PullSaw$Work", "pullOnce", "(LPullSaw$Yard;)I"⟩ : Cond) ∈ tb_G := tb_in (List.mem_of_getElem? (i := 606) (by decide +kernel)) rfl
set_option maxRecDepth 100000 in
theorem tq_607 : (.code ⟨"PullSaw$Work", "pullOnce", "(LPullSaw$Yard;)I"⟩ prog_9_method_10_code 6 (some .int) : Cond) ∈ tb_G := tb_in (List.mem_of_getElem? (i := 607) rfl) rfl
theorem tq_608 : (.methodLink "PullSaw$Work" 86 ⟨"PullSaw$Row", "at", "([II)I"⟩ : Cond) ∈ tb_G := tb_in (List.mem_of_getElem? (i := 608) (by decide +kernel)) rfl
theorem tq_609 : (.methodLink "PullSaw$Work" 93 ⟨"PullSaw$Work", "pullOf", "(LPullSaw$Yard;II)I"⟩ : Cond) ∈ tb_G := tb_in (List.mem_of_getElem? (i := 609) (by decide +kernel)) rfl
theorem tq_611 : (.instanceMethod ⟨"PullSaw$Work", "pullOf", "(LPullSaw$Yard;II)I"⟩ : Cond) ∈ tb_G := tb_in (List.mem_of_getElem? (i := 611) (by decide +kernel)) rfl
set_option maxRecDepth 100000 in
theorem tq_612 : (.code ⟨"PullSaw$Work", "pullOf", "(LPullSaw$Yard;II)I"⟩ prog_9_method_11_code 6 (some .int) : Cond) ∈ tb_G := tb_in (List.mem_of_getElem? (i := 612) rfl) rfl
theorem tq_613 : (.methodLink "PullSaw$Work" 101 ⟨"java/lang/Math", "min", "(II)I"⟩ : Cond) ∈ tb_G := tb_in (List.mem_of_getElem? (i := 613) (by decide +kernel)) rfl
theorem tq_614 : (.methodLink "PullSaw$Work" 128 ⟨"java/lang/Math", "max", "(II)I"⟩ : Cond) ∈ tb_G := tb_in (List.mem_of_getElem? (i := 614) (by decide +kernel)) rfl
theorem tq_615 : (.methodLink "PullSaw$Work" 110 ⟨"PullSaw$Work", "buckles", "(LPullSaw$Yard;I)Z"⟩ : Cond) ∈ tb_G := tb_in (List.mem_of_getElem? (i := 615) (by decide +kernel)) rfl
theorem tq_616 : (.static ⟨"PullSaw$Work", "buckles", "(LPullSaw$Yard;I)Z"⟩ : Cond) ∈ tb_G := tb_in (List.mem_of_getElem? (i := 616) (by decide +kernel)) rfl
set_option maxRecDepth 100000 in
theorem tq_617 : (.code ⟨"PullSaw$Work", "buckles", "(LPullSaw$Yard;I)Z"⟩ prog_9_method_12_code 2 (some .boolean) : Cond) ∈ tb_G := tb_in (List.mem_of_getElem? (i := 617) rfl) rfl
theorem tq_618 : (.methodLink "PullSaw$Work" 97 ⟨"PullSaw$Work", "cutBy", "(LPullSaw$Yard;I)I"⟩ : Cond) ∈ tb_G := tb_in (List.mem_of_getElem? (i := 618) (by decide +kernel)) rfl
theorem tq_620 : (.instanceMethod ⟨"PullSaw$Work", "cutBy", "(LPullSaw$Yard;I)I"⟩ : Cond) ∈ tb_G := tb_in (List.mem_of_getElem? (i := 620) (by decide +kernel)) rfl
set_option maxRecDepth 100000 in
theorem tq_621 : (.code ⟨"PullSaw$Work", "cutBy", "(LPullSaw$Yard;I)I"⟩ prog_9_method_13_code 4 (some .int) : Cond) ∈ tb_G := tb_in (List.mem_of_getElem? (i := 621) rfl) rfl
theorem tq_622 : (.methodLink "PullSaw$Work" 90 ⟨"PullSaw$Work", "tire", "(II)V"⟩ : Cond) ∈ tb_G := tb_in (List.mem_of_getElem? (i := 622) (by decide +kernel)) rfl
theorem tq_624 : (.instanceMethod ⟨"PullSaw$Work", "tire", "(II)V"⟩ : Cond) ∈ tb_G := tb_in (List.mem_of_getElem? (i := 624) (by decide +kernel)) rfl
set_option maxRecDepth 100000 in
theorem tq_625 : (.code ⟨"PullSaw$Work", "tire", "(II)V"⟩ prog_9_method_14_code 3 none : Cond) ∈ tb_G := tb_in (List.mem_of_getElem? (i := 625) rfl) rfl
theorem tq_626 : (.methodLink "PullSaw$Work" 140 ⟨"PullSaw$Row", "put", "([III)V"⟩ : Cond) ∈ tb_G := tb_in (List.mem_of_getElem? (i := 626) (by decide +kernel)) rfl
theorem tq_627 : (.methodLink "PullSaw$Work" 120 ⟨"PullSaw$Work", "feel", "(III)V"⟩ : Cond) ∈ tb_G := tb_in (List.mem_of_getElem? (i := 627) (by decide +kernel)) rfl
theorem tq_629 : (.instanceMethod ⟨"PullSaw$Work", "feel", "(III)V"⟩ : Cond) ∈ tb_G := tb_in (List.mem_of_getElem? (i := 629) (by decide +kernel)) rfl
set_option maxRecDepth 100000 in
theorem tq_630 : (.code ⟨"PullSaw$Work", "feel", "(III)V"⟩ prog_9_method_15_code 5 none : Cond) ∈ tb_G := tb_in (List.mem_of_getElem? (i := 630) rfl) rfl
theorem tq_631 : (.methodLink "PullSaw$Work" 124 ⟨"PullSaw$Work", "lean", "(LPullSaw$Yard;)I"⟩ : Cond) ∈ tb_G := tb_in (List.mem_of_getElem? (i := 631) (by decide +kernel)) rfl
theorem tq_632 : (.instanceMethod ⟨"PullSaw$Work", "lean", "(LPullSaw$Yard;)I"⟩ : Cond) ∈ tb_G := tb_in (List.mem_of_getElem? (i := 632) (by decide +kernel)) rfl
theorem tq_633 : (.selects "PullSaw$Work" ⟨"PullSaw$Work", "lean", "(LPullSaw$Yard;)I"⟩ ⟨"PullSaw$Work", "lean", "(LPullSaw$Yard;)I"⟩ : Cond) ∈ tb_G := tb_in (List.mem_of_getElem? (i := 633) (by decide +kernel)) rfl
set_option maxRecDepth 100000 in
theorem tq_634 : (.code ⟨"PullSaw$Work", "lean", "(LPullSaw$Yard;)I"⟩ prog_9_method_7_code 2 (some .int) : Cond) ∈ tb_G := tb_in (List.mem_of_getElem? (i := 634) rfl) rfl
theorem tq_635 : (.methodLink "PullSawLaw" 48 ⟨"PullSaw", "rest", "(I)I"⟩ : Cond) ∈ tb_G := tb_in (List.mem_of_getElem? (i := 635) (by decide +kernel)) rfl
theorem tq_636 : (.instanceMethod ⟨"PullSaw", "rest", "(I)I"⟩ : Cond) ∈ tb_G := tb_in (List.mem_of_getElem? (i := 636) (by decide +kernel)) rfl
theorem tq_637 : (.selects "PullSaw" ⟨"PullSaw", "rest", "(I)I"⟩ ⟨"PullSaw", "rest", "(I)I"⟩ : Cond) ∈ tb_G := tb_in (List.mem_of_getElem? (i := 637) (by decide +kernel)) rfl
set_option maxRecDepth 100000 in
theorem tq_638 : (.code ⟨"PullSaw", "rest", "(I)I"⟩ prog_1_method_10_code 3 (some .int) : Cond) ∈ tb_G := tb_in (List.mem_of_getElem? (i := 638) rfl) rfl
theorem tq_639 : (.methodLink "PullSaw" 218 ⟨"PullSaw$Work", "restFor", "(I)V"⟩ : Cond) ∈ tb_G := tb_in (List.mem_of_getElem? (i := 639) (by decide +kernel)) rfl
theorem tq_640 : (.instanceMethod ⟨"PullSaw$Work", "restFor", "(I)V"⟩ : Cond) ∈ tb_G := tb_in (List.mem_of_getElem? (i := 640) (by decide +kernel)) rfl
theorem tq_641 : (.selects "PullSaw$Work" ⟨"PullSaw$Work", "restFor", "(I)V"⟩ ⟨"PullSaw$Work", "restFor", "(I)V"⟩ : Cond) ∈ tb_G := tb_in (List.mem_of_getElem? (i := 641) (by decide +kernel)) rfl
set_option maxRecDepth 100000 in
theorem tq_642 : (.code ⟨"PullSaw$Work", "restFor", "(I)V"⟩ prog_9_method_9_code 2 none : Cond) ∈ tb_G := tb_in (List.mem_of_getElem? (i := 642) rfl) rfl
theorem tq_643 : (.methodLink "PullSawLaw" 52 ⟨"PullSaw", "sides", "()I"⟩ : Cond) ∈ tb_G := tb_in (List.mem_of_getElem? (i := 643) (by decide +kernel)) rfl
theorem tq_644 : (.instanceMethod ⟨"PullSaw", "sides", "()I"⟩ : Cond) ∈ tb_G := tb_in (List.mem_of_getElem? (i := 644) (by decide +kernel)) rfl
theorem tq_645 : (.selects "PullSaw" ⟨"PullSaw", "sides", "()I"⟩ ⟨"PullSaw", "sides", "()I"⟩ : Cond) ∈ tb_G := tb_in (List.mem_of_getElem? (i := 645) (by decide +kernel)) rfl
set_option maxRecDepth 100000 in
theorem tq_646 : (.code ⟨"PullSaw", "sides", "()I"⟩ prog_1_method_11_code 1 (some .int) : Cond) ∈ tb_G := tb_in (List.mem_of_getElem? (i := 646) rfl) rfl
theorem tq_647 : (.methodLink "PullSaw" 226 ⟨"PullSaw$Work", "changeSides", "()V"⟩ : Cond) ∈ tb_G := tb_in (List.mem_of_getElem? (i := 647) (by decide +kernel)) rfl
theorem tq_648 : (.instanceMethod ⟨"PullSaw$Work", "changeSides", "()V"⟩ : Cond) ∈ tb_G := tb_in (List.mem_of_getElem? (i := 648) (by decide +kernel)) rfl
theorem tq_649 : (.selects "PullSaw$Work" ⟨"PullSaw$Work", "changeSides", "()V"⟩ ⟨"PullSaw$Work", "changeSides", "()V"⟩ : Cond) ∈ tb_G := tb_in (List.mem_of_getElem? (i := 649) (by decide +kernel)) rfl
set_option maxRecDepth 100000 in
theorem tq_650 : (.code ⟨"PullSaw$Work", "changeSides", "()V"⟩ prog_9_method_8_code 2 none : Cond) ∈ tb_G := tb_in (List.mem_of_getElem? (i := 650) rfl) rfl
theorem tq_651 : (.methodLink "PullSawLaw" 56 ⟨"PullSaw", "oil", "()I"⟩ : Cond) ∈ tb_G := tb_in (List.mem_of_getElem? (i := 651) (by decide +kernel)) rfl
theorem tq_652 : (.instanceMethod ⟨"PullSaw", "oil", "()I"⟩ : Cond) ∈ tb_G := tb_in (List.mem_of_getElem? (i := 652) (by decide +kernel)) rfl
theorem tq_653 : (.selects "PullSaw" ⟨"PullSaw", "oil", "()I"⟩ ⟨"PullSaw", "oil", "()I"⟩ : Cond) ∈ tb_G := tb_in (List.mem_of_getElem? (i := 653) (by decide +kernel)) rfl
set_option maxRecDepth 100000 in
theorem tq_654 : (.code ⟨"PullSaw", "oil", "()I"⟩ prog_1_method_12_code 2 (some .int) : Cond) ∈ tb_G := tb_in (List.mem_of_getElem? (i := 654) rfl) rfl
theorem tq_655 : (.methodLink "PullSawLaw" 60 ⟨"PullSaw", "wedge", "()I"⟩ : Cond) ∈ tb_G := tb_in (List.mem_of_getElem? (i := 655) (by decide +kernel)) rfl
theorem tq_656 : (.instanceMethod ⟨"PullSaw", "wedge", "()I"⟩ : Cond) ∈ tb_G := tb_in (List.mem_of_getElem? (i := 656) (by decide +kernel)) rfl
theorem tq_657 : (.selects "PullSaw" ⟨"PullSaw", "wedge", "()I"⟩ ⟨"PullSaw", "wedge", "()I"⟩ : Cond) ∈ tb_G := tb_in (List.mem_of_getElem? (i := 657) (by decide +kernel)) rfl
set_option maxRecDepth 100000 in
theorem tq_658 : (.code ⟨"PullSaw", "wedge", "()I"⟩ prog_1_method_13_code 1 (some .int) : Cond) ∈ tb_G := tb_in (List.mem_of_getElem? (i := 658) rfl) rfl
theorem tq_659 : (.methodLink "PullSawLaw" 64 ⟨"PullSaw", "file", "()I"⟩ : Cond) ∈ tb_G := tb_in (List.mem_of_getElem? (i := 659) (by decide +kernel)) rfl
theorem tq_660 : (.instanceMethod ⟨"PullSaw", "file", "()I"⟩ : Cond) ∈ tb_G := tb_in (List.mem_of_getElem? (i := 660) (by decide +kernel)) rfl
theorem tq_661 : (.selects "PullSaw" ⟨"PullSaw", "file", "()I"⟩ ⟨"PullSaw", "file", "()I"⟩ : Cond) ∈ tb_G := tb_in (List.mem_of_getElem? (i := 661) (by decide +kernel)) rfl
set_option maxRecDepth 100000 in
theorem tq_662 : (.code ⟨"PullSaw", "file", "()I"⟩ prog_1_method_14_code 1 (some .int) : Cond) ∈ tb_G := tb_in (List.mem_of_getElem? (i := 662) rfl) rfl
theorem tq_663 : (.methodLink "PullSawLaw" 68 ⟨"PullSaw", "wish", "(II)I"⟩ : Cond) ∈ tb_G := tb_in (List.mem_of_getElem? (i := 663) (by decide +kernel)) rfl
theorem tq_664 : (.instanceMethod ⟨"PullSaw", "wish", "(II)I"⟩ : Cond) ∈ tb_G := tb_in (List.mem_of_getElem? (i := 664) (by decide +kernel)) rfl
theorem tq_665 : (.selects "PullSaw" ⟨"PullSaw", "wish", "(II)I"⟩ ⟨"PullSaw", "wish", "(II)I"⟩ : Cond) ∈ tb_G := tb_in (List.mem_of_getElem? (i := 665) (by decide +kernel)) rfl
set_option maxRecDepth 100000 in
theorem tq_666 : (.code ⟨"PullSaw", "wish", "(II)I"⟩ prog_1_method_15_code 3 (some .int) : Cond) ∈ tb_G := tb_in (List.mem_of_getElem? (i := 666) rfl) rfl
theorem tq_667 : (.methodLink "PullSaw" 233 ⟨"PullSaw", "changeRow", "([III)I"⟩ : Cond) ∈ tb_G := tb_in (List.mem_of_getElem? (i := 667) (by decide +kernel)) rfl
theorem tq_669 : (.instanceMethod ⟨"PullSaw", "changeRow", "([III)I"⟩ : Cond) ∈ tb_G := tb_in (List.mem_of_getElem? (i := 669) (by decide +kernel)) rfl
set_option maxRecDepth 100000 in
theorem tq_670 : (.code ⟨"PullSaw", "changeRow", "([III)I"⟩ prog_1_method_41_code 5 (some .int) : Cond) ∈ tb_G := tb_in (List.mem_of_getElem? (i := 670) rfl) rfl
theorem tq_671 : (.methodLink "PullSaw" 327 ⟨"PullSaw$Row", "put", "([III)V"⟩ : Cond) ∈ tb_G := tb_in (List.mem_of_getElem? (i := 671) (by decide +kernel)) rfl
theorem tq_672 : (.methodLink "PullSawLaw" 72 ⟨"PullSaw", "habit", "(II)I"⟩ : Cond) ∈ tb_G := tb_in (List.mem_of_getElem? (i := 672) (by decide +kernel)) rfl
theorem tq_673 : (.instanceMethod ⟨"PullSaw", "habit", "(II)I"⟩ : Cond) ∈ tb_G := tb_in (List.mem_of_getElem? (i := 673) (by decide +kernel)) rfl
theorem tq_674 : (.selects "PullSaw" ⟨"PullSaw", "habit", "(II)I"⟩ ⟨"PullSaw", "habit", "(II)I"⟩ : Cond) ∈ tb_G := tb_in (List.mem_of_getElem? (i := 674) (by decide +kernel)) rfl
set_option maxRecDepth 100000 in
theorem tq_675 : (.code ⟨"PullSaw", "habit", "(II)I"⟩ prog_1_method_16_code 3 (some .int) : Cond) ∈ tb_G := tb_in (List.mem_of_getElem? (i := 675) rfl) rfl
theorem tq_676 : (.methodLink "PullSawLaw" 76 ⟨"PullSaw", "drift", "(I)I"⟩ : Cond) ∈ tb_G := tb_in (List.mem_of_getElem? (i := 676) (by decide +kernel)) rfl
theorem tq_677 : (.instanceMethod ⟨"PullSaw", "drift", "(I)I"⟩ : Cond) ∈ tb_G := tb_in (List.mem_of_getElem? (i := 677) (by decide +kernel)) rfl
theorem tq_678 : (.selects "PullSaw" ⟨"PullSaw", "drift", "(I)I"⟩ ⟨"PullSaw", "drift", "(I)I"⟩ : Cond) ∈ tb_G := tb_in (List.mem_of_getElem? (i := 678) (by decide +kernel)) rfl
set_option maxRecDepth 100000 in
theorem tq_679 : (.code ⟨"PullSaw", "drift", "(I)I"⟩ prog_1_method_17_code 4 (some .int) : Cond) ∈ tb_G := tb_in (List.mem_of_getElem? (i := 679) rfl) rfl
theorem tq_680 : (.methodLink "PullSaw" 237 ⟨"PullSaw", "driftOnce", "()V"⟩ : Cond) ∈ tb_G := tb_in (List.mem_of_getElem? (i := 680) (by decide +kernel)) rfl
theorem tq_682 : (.instanceMethod ⟨"PullSaw", "driftOnce", "()V"⟩ : Cond) ∈ tb_G := tb_in (List.mem_of_getElem? (i := 682) (by decide +kernel)) rfl
set_option maxRecDepth 100000 in
theorem tq_683 : (.code ⟨"PullSaw", "driftOnce", "()V"⟩ prog_1_method_43_code 1 none : Cond) ∈ tb_G := tb_in (List.mem_of_getElem? (i := 683) rfl) rfl
theorem tq_684 : (.methodLink "PullSaw" 331 ⟨"PullSaw", "drawEighth", "()I"⟩ : Cond) ∈ tb_G := tb_in (List.mem_of_getElem? (i := 684) (by decide +kernel)) rfl
theorem tq_686 : (.instanceMethod ⟨"PullSaw", "drawEighth", "()I"⟩ : Cond) ∈ tb_G := tb_in (List.mem_of_getElem? (i := 686) (by decide +kernel)) rfl
set_option maxRecDepth 100000 in
theorem tq_687 : (.code ⟨"PullSaw", "drawEighth", "()I"⟩ prog_1_method_44_code 1 (some .int) : Cond) ∈ tb_G := tb_in (List.mem_of_getElem? (i := 687) rfl) rfl
theorem tq_688 : (.constant "PullSaw" 335 (1103515245 : Int32) : Cond) ∈ tb_G := tb_in (List.mem_of_getElem? (i := 688) (by decide +kernel)) rfl
theorem tq_689 : (.constant "PullSaw" 336 (2147483647 : Int32) : Cond) ∈ tb_G := tb_in (List.mem_of_getElem? (i := 689) (by decide +kernel)) rfl
theorem tq_690 : (.constant "PullSaw" 337 (65536 : Int32) : Cond) ∈ tb_G := tb_in (List.mem_of_getElem? (i := 690) (by decide +kernel)) rfl
theorem tq_691 : (.methodLink "PullSawLaw" 80 ⟨"PullSaw", "undo", "(I)I"⟩ : Cond) ∈ tb_G := tb_in (List.mem_of_getElem? (i := 691) (by decide +kernel)) rfl
theorem tq_692 : (.instanceMethod ⟨"PullSaw", "undo", "(I)I"⟩ : Cond) ∈ tb_G := tb_in (List.mem_of_getElem? (i := 692) (by decide +kernel)) rfl
theorem tq_693 : (.selects "PullSaw" ⟨"PullSaw", "undo", "(I)I"⟩ ⟨"PullSaw", "undo", "(I)I"⟩ : Cond) ∈ tb_G := tb_in (List.mem_of_getElem? (i := 693) (by decide +kernel)) rfl
set_option maxRecDepth 100000 in
theorem tq_694 : (.code ⟨"PullSaw", "undo", "(I)I"⟩ prog_1_method_18_code 2 (some .int) : Cond) ∈ tb_G := tb_in (List.mem_of_getElem? (i := 694) rfl) rfl
theorem tq_695 : (.methodLink "PullSaw" 240 ⟨"PullSaw$Past", "bringBack", "(ILPullSaw$Work;)V"⟩ : Cond) ∈ tb_G := tb_in (List.mem_of_getElem? (i := 695) (by decide +kernel)) rfl
theorem tq_696 : (.instanceMethod ⟨"PullSaw$Past", "bringBack", "(ILPullSaw$Work;)V"⟩ : Cond) ∈ tb_G := tb_in (List.mem_of_getElem? (i := 696) (by decide +kernel)) rfl
theorem tq_697 : (.selects "PullSaw$Past" ⟨"PullSaw$Past", "bringBack", "(ILPullSaw$Work;)V"⟩ ⟨"PullSaw$Past", "bringBack", "(ILPullSaw$Work;)V"⟩ : Cond) ∈ tb_G := tb_in (List.mem_of_getElem? (i := 697) (by decide +kernel)) rfl
set_option maxRecDepth 100000 in
theorem tq_698 : (.code ⟨"PullSaw$Past", "bringBack", "(ILPullSaw$Work;)V"⟩ prog_4_method_4_code 5 none : Cond) ∈ tb_G := tb_in (List.mem_of_getElem? (i := 698) rfl) rfl
theorem tq_699 : (.methodLink "PullSawLaw" 84 ⟨"PullSaw", "toGo", "()I"⟩ : Cond) ∈ tb_G := tb_in (List.mem_of_getElem? (i := 699) (by decide +kernel)) rfl
theorem tq_700 : (.instanceMethod ⟨"PullSaw", "toGo", "()I"⟩ : Cond) ∈ tb_G := tb_in (List.mem_of_getElem? (i := 700) (by decide +kernel)) rfl
theorem tq_701 : (.selects "PullSaw" ⟨"PullSaw", "toGo", "()I"⟩ ⟨"PullSaw", "toGo", "()I"⟩ : Cond) ∈ tb_G := tb_in (List.mem_of_getElem? (i := 701) (by decide +kernel)) rfl
set_option maxRecDepth 100000 in
theorem tq_702 : (.code ⟨"PullSaw", "toGo", "()I"⟩ prog_1_method_19_code 1 (some .int) : Cond) ∈ tb_G := tb_in (List.mem_of_getElem? (i := 702) rfl) rfl
theorem tq_703 : (.methodLink "PullSaw" 244 ⟨"PullSaw$Trial", "strokesFrom", "(LPullSaw$Yard;LPullSaw$Work;)I"⟩ : Cond) ∈ tb_G := tb_in (List.mem_of_getElem? (i := 703) (by decide +kernel)) rfl
theorem tq_704 : (.instanceMethod ⟨"PullSaw$Trial", "strokesFrom", "(LPullSaw$Yard;LPullSaw$Work;)I"⟩ : Cond) ∈ tb_G := tb_in (List.mem_of_getElem? (i := 704) (by decide +kernel)) rfl
theorem tq_705 : (.selects "PullSaw$Trial" ⟨"PullSaw$Trial", "strokesFrom", "(LPullSaw$Yard;LPullSaw$Work;)I"⟩ ⟨"PullSaw$Trial", "strokesFrom", "(LPullSaw$Yard;LPullSaw$Work;)I"⟩ : Cond) ∈ tb_G := tb_in (List.mem_of_getElem? (i := 705) (by decide +kernel)) rfl
set_option maxRecDepth 100000 in
theorem tq_706 : (.code ⟨"PullSaw$Trial", "strokesFrom", "(LPullSaw$Yard;LPullSaw$Work;)I"⟩ prog_8_method_2_code 3 (some .int) : Cond) ∈ tb_G := tb_in (List.mem_of_getElem? (i := 706) rfl) rfl
theorem tq_707 : (.methodLink "PullSaw$Trial" 21 ⟨"PullSaw$Work", "become", "(LPullSaw$Work;)V"⟩ : Cond) ∈ tb_G := tb_in (List.mem_of_getElem? (i := 707) (by decide +kernel)) rfl
theorem tq_708 : (.methodLink "PullSaw$Trial" 25 ⟨"PullSaw$Trial", "strokesThrough", "(LPullSaw$Yard;LPullSaw$Work;I)I"⟩ : Cond) ∈ tb_G := tb_in (List.mem_of_getElem? (i := 708) (by decide +kernel)) rfl
theorem tq_710 : (.instanceMethod ⟨"PullSaw$Trial", "strokesThrough", "(LPullSaw$Yard;LPullSaw$Work;I)I"⟩ : Cond) ∈ tb_G := tb_in (List.mem_of_getElem? (i := 710) (by decide +kernel)) rfl
set_option maxRecDepth 100000 in
theorem tq_711 : (.code ⟨"PullSaw$Trial", "strokesThrough", "(LPullSaw$Yard;LPullSaw$Work;I)I"⟩ prog_8_method_5_code 6 (some .int) : Cond) ∈ tb_G := tb_in (List.mem_of_getElem? (i := 711) rfl) rfl
theorem tq_712 : (.methodLink "PullSaw$Trial" 52 ⟨"PullSaw$Work", "isThrough", "(LPullSaw$Yard;)Z"⟩ : Cond) ∈ tb_G := tb_in (List.mem_of_getElem? (i := 712) (by decide +kernel)) rfl
theorem tq_713 : (.methodLink "PullSaw$Trial" 56 ⟨"PullSaw$Work", "pullOnce", "(LPullSaw$Yard;)I"⟩ : Cond) ∈ tb_G := tb_in (List.mem_of_getElem? (i := 713) (by decide +kernel)) rfl
theorem tq_714 : (.methodLink "PullSaw$Trial" 60 ⟨"PullSaw$Trial", "isNoFresher", "(LPullSaw$Work;)Z"⟩ : Cond) ∈ tb_G := tb_in (List.mem_of_getElem? (i := 714) (by decide +kernel)) rfl
theorem tq_716 : (.instanceMethod ⟨"PullSaw$Trial", "isNoFresher", "(LPullSaw$Work;)Z"⟩ : Cond) ∈ tb_G := tb_in (List.mem_of_getElem? (i := 716) (by decide +kernel)) rfl
set_option maxRecDepth 100000 in
theorem tq_717 : (.code ⟨"PullSaw$Trial", "isNoFresher", "(LPullSaw$Work;)Z"⟩ prog_8_method_7_code 2 (some .boolean) : Cond) ∈ tb_G := tb_in (List.mem_of_getElem? (i := 717) rfl) rfl
theorem tq_718 : (.methodLink "PullSaw$Trial" 74 ⟨"PullSaw$Row", "at", "([II)I"⟩ : Cond) ∈ tb_G := tb_in (List.mem_of_getElem? (i := 718) (by decide +kernel)) rfl
theorem tq_719 : (.methodLink "PullSaw$Trial" 64 ⟨"PullSaw$Trial", "rememberPair", "(LPullSaw$Work;)V"⟩ : Cond) ∈ tb_G := tb_in (List.mem_of_getElem? (i := 719) (by decide +kernel)) rfl
theorem tq_721 : (.instanceMethod ⟨"PullSaw$Trial", "rememberPair", "(LPullSaw$Work;)V"⟩ : Cond) ∈ tb_G := tb_in (List.mem_of_getElem? (i := 721) (by decide +kernel)) rfl
set_option maxRecDepth 100000 in
theorem tq_722 : (.code ⟨"PullSaw$Trial", "rememberPair", "(LPullSaw$Work;)V"⟩ prog_8_method_6_code 2 none : Cond) ∈ tb_G := tb_in (List.mem_of_getElem? (i := 722) rfl) rfl
theorem tq_723 : (.methodLink "PullSaw" 248 ⟨"PullSaw", "noneIfNever", "(I)I"⟩ : Cond) ∈ tb_G := tb_in (List.mem_of_getElem? (i := 723) (by decide +kernel)) rfl
theorem tq_724 : (.static ⟨"PullSaw", "noneIfNever", "(I)I"⟩ : Cond) ∈ tb_G := tb_in (List.mem_of_getElem? (i := 724) (by decide +kernel)) rfl
set_option maxRecDepth 100000 in
theorem tq_725 : (.code ⟨"PullSaw", "noneIfNever", "(I)I"⟩ prog_1_method_38_code 1 (some .int) : Cond) ∈ tb_G := tb_in (List.mem_of_getElem? (i := 725) rfl) rfl
theorem tq_726 : (.methodLink "PullSawLaw" 88 ⟨"PullSaw", "fresh", "(II)I"⟩ : Cond) ∈ tb_G := tb_in (List.mem_of_getElem? (i := 726) (by decide +kernel)) rfl
theorem tq_727 : (.instanceMethod ⟨"PullSaw", "fresh", "(II)I"⟩ : Cond) ∈ tb_G := tb_in (List.mem_of_getElem? (i := 727) (by decide +kernel)) rfl
theorem tq_728 : (.selects "PullSaw" ⟨"PullSaw", "fresh", "(II)I"⟩ ⟨"PullSaw", "fresh", "(II)I"⟩ : Cond) ∈ tb_G := tb_in (List.mem_of_getElem? (i := 728) (by decide +kernel)) rfl
set_option maxRecDepth 100000 in
theorem tq_729 : (.code ⟨"PullSaw", "fresh", "(II)I"⟩ prog_1_method_20_code 4 (some .int) : Cond) ∈ tb_G := tb_in (List.mem_of_getElem? (i := 729) rfl) rfl
theorem tq_730 : (.methodLink "PullSaw" 251 ⟨"PullSaw$Trial", "strokesFresh", "(LPullSaw$Yard;LPullSaw$Work;II)I"⟩ : Cond) ∈ tb_G := tb_in (List.mem_of_getElem? (i := 730) (by decide +kernel)) rfl
theorem tq_731 : (.instanceMethod ⟨"PullSaw$Trial", "strokesFresh", "(LPullSaw$Yard;LPullSaw$Work;II)I"⟩ : Cond) ∈ tb_G := tb_in (List.mem_of_getElem? (i := 731) (by decide +kernel)) rfl
theorem tq_732 : (.selects "PullSaw$Trial" ⟨"PullSaw$Trial", "strokesFresh", "(LPullSaw$Yard;LPullSaw$Work;II)I"⟩ ⟨"PullSaw$Trial", "strokesFresh", "(LPullSaw$Yard;LPullSaw$Work;II)I"⟩ : Cond) ∈ tb_G := tb_in (List.mem_of_getElem? (i := 732) (by decide +kernel)) rfl
set_option maxRecDepth 100000 in
theorem tq_733 : (.code ⟨"PullSaw$Trial", "strokesFresh", "(LPullSaw$Yard;LPullSaw$Work;II)I"⟩ prog_8_method_3_code 5 (some .int) : Cond) ∈ tb_G := tb_in (List.mem_of_getElem? (i := 733) rfl) rfl
theorem tq_734 : (.methodLink "PullSaw$Trial" 29 ⟨"PullSaw$Trial", "begin", "(LPullSaw$Yard;LPullSaw$Work;II)V"⟩ : Cond) ∈ tb_G := tb_in (List.mem_of_getElem? (i := 734) (by decide +kernel)) rfl
theorem tq_736 : (.instanceMethod ⟨"PullSaw$Trial", "begin", "(LPullSaw$Yard;LPullSaw$Work;II)V"⟩ : Cond) ∈ tb_G := tb_in (List.mem_of_getElem? (i := 736) (by decide +kernel)) rfl
set_option maxRecDepth 100000 in
theorem tq_737 : (.code ⟨"PullSaw$Trial", "begin", "(LPullSaw$Yard;LPullSaw$Work;II)V"⟩ prog_8_method_4_code 5 none : Cond) ∈ tb_G := tb_in (List.mem_of_getElem? (i := 737) rfl) rfl
theorem tq_738 : (.methodLink "PullSaw$Trial" 33 ⟨"PullSaw$Work", "startLog", "(II)V"⟩ : Cond) ∈ tb_G := tb_in (List.mem_of_getElem? (i := 738) (by decide +kernel)) rfl
theorem tq_739 : (.methodLink "PullSaw$Trial" 46 ⟨"PullSaw$Row", "copy", "([I[I)V"⟩ : Cond) ∈ tb_G := tb_in (List.mem_of_getElem? (i := 739) (by decide +kernel)) rfl
theorem tq_740 : (.methodLink "PullSawLaw" 92 ⟨"PullSaw", "wishes", "(III)I"⟩ : Cond) ∈ tb_G := tb_in (List.mem_of_getElem? (i := 740) (by decide +kernel)) rfl
theorem tq_741 : (.instanceMethod ⟨"PullSaw", "wishes", "(III)I"⟩ : Cond) ∈ tb_G := tb_in (List.mem_of_getElem? (i := 741) (by decide +kernel)) rfl
theorem tq_742 : (.selects "PullSaw" ⟨"PullSaw", "wishes", "(III)I"⟩ ⟨"PullSaw", "wishes", "(III)I"⟩ : Cond) ∈ tb_G := tb_in (List.mem_of_getElem? (i := 742) (by decide +kernel)) rfl
set_option maxRecDepth 100000 in
theorem tq_743 : (.code ⟨"PullSaw", "wishes", "(III)I"⟩ prog_1_method_21_code 4 (some .int) : Cond) ∈ tb_G := tb_in (List.mem_of_getElem? (i := 743) rfl) rfl
theorem tq_744 : (.methodLink "PullSaw" 259 ⟨"PullSaw$Trial", "findWishes", "(LPullSaw$Yard;LPullSaw$Work;II)V"⟩ : Cond) ∈ tb_G := tb_in (List.mem_of_getElem? (i := 744) (by decide +kernel)) rfl
theorem tq_745 : (.instanceMethod ⟨"PullSaw$Trial", "findWishes", "(LPullSaw$Yard;LPullSaw$Work;II)V"⟩ : Cond) ∈ tb_G := tb_in (List.mem_of_getElem? (i := 745) (by decide +kernel)) rfl
theorem tq_746 : (.selects "PullSaw$Trial" ⟨"PullSaw$Trial", "findWishes", "(LPullSaw$Yard;LPullSaw$Work;II)V"⟩ ⟨"PullSaw$Trial", "findWishes", "(LPullSaw$Yard;LPullSaw$Work;II)V"⟩ : Cond) ∈ tb_G := tb_in (List.mem_of_getElem? (i := 746) (by decide +kernel)) rfl
set_option maxRecDepth 100000 in
theorem tq_747 : (.code ⟨"PullSaw$Trial", "findWishes", "(LPullSaw$Yard;LPullSaw$Work;II)V"⟩ prog_8_method_8_code 10 none : Cond) ∈ tb_G := tb_in (List.mem_of_getElem? (i := 747) rfl) rfl
theorem tq_748 : (.methodLink "PullSaw$Trial" 105 ⟨"java/lang/Math", "min", "(II)I"⟩ : Cond) ∈ tb_G := tb_in (List.mem_of_getElem? (i := 748) (by decide +kernel)) rfl
theorem tq_749 : (.methodLink "PullSaw$Trial" 111 ⟨"PullSaw$Row", "put", "([III)V"⟩ : Cond) ∈ tb_G := tb_in (List.mem_of_getElem? (i := 749) (by decide +kernel)) rfl
theorem tq_750 : (.methodLink "PullSawLaw" 97 ⟨"PullSaw", "quarrel", "(II)I"⟩ : Cond) ∈ tb_G := tb_in (List.mem_of_getElem? (i := 750) (by decide +kernel)) rfl
theorem tq_751 : (.instanceMethod ⟨"PullSaw", "quarrel", "(II)I"⟩ : Cond) ∈ tb_G := tb_in (List.mem_of_getElem? (i := 751) (by decide +kernel)) rfl
theorem tq_752 : (.selects "PullSaw" ⟨"PullSaw", "quarrel", "(II)I"⟩ ⟨"PullSaw", "quarrel", "(II)I"⟩ : Cond) ∈ tb_G := tb_in (List.mem_of_getElem? (i := 752) (by decide +kernel)) rfl
set_option maxRecDepth 100000 in
theorem tq_753 : (.code ⟨"PullSaw", "quarrel", "(II)I"⟩ prog_1_method_22_code 4 (some .int) : Cond) ∈ tb_G := tb_in (List.mem_of_getElem? (i := 753) rfl) rfl
theorem tq_754 : (.methodLink "PullSaw" 272 ⟨"PullSaw$Trial", "quarrelStroke", "(LPullSaw$Yard;LPullSaw$Work;II)I"⟩ : Cond) ∈ tb_G := tb_in (List.mem_of_getElem? (i := 754) (by decide +kernel)) rfl
theorem tq_755 : (.instanceMethod ⟨"PullSaw$Trial", "quarrelStroke", "(LPullSaw$Yard;LPullSaw$Work;II)I"⟩ : Cond) ∈ tb_G := tb_in (List.mem_of_getElem? (i := 755) (by decide +kernel)) rfl
theorem tq_756 : (.selects "PullSaw$Trial" ⟨"PullSaw$Trial", "quarrelStroke", "(LPullSaw$Yard;LPullSaw$Work;II)I"⟩ ⟨"PullSaw$Trial", "quarrelStroke", "(LPullSaw$Yard;LPullSaw$Work;II)I"⟩ : Cond) ∈ tb_G := tb_in (List.mem_of_getElem? (i := 756) (by decide +kernel)) rfl
set_option maxRecDepth 100000 in
theorem tq_757 : (.code ⟨"PullSaw$Trial", "quarrelStroke", "(LPullSaw$Yard;LPullSaw$Work;II)I"⟩ prog_8_method_9_code 6 (some .int) : Cond) ∈ tb_G := tb_in (List.mem_of_getElem? (i := 757) rfl) rfl
theorem tq_758 : (.methodLink "PullSaw$Trial" 115 ⟨"PullSaw$Work", "hasQuarrel", "()Z"⟩ : Cond) ∈ tb_G := tb_in (List.mem_of_getElem? (i := 758) (by decide +kernel)) rfl
theorem tq_759 : (.instanceMethod ⟨"PullSaw$Work", "hasQuarrel", "()Z"⟩ : Cond) ∈ tb_G := tb_in (List.mem_of_getElem? (i := 759) (by decide +kernel)) rfl
theorem tq_760 : (.selects "PullSaw$Work" ⟨"PullSaw$Work", "hasQuarrel", "()Z"⟩ ⟨"PullSaw$Work", "hasQuarrel", "()Z"⟩ : Cond) ∈ tb_G := tb_in (List.mem_of_getElem? (i := 760) (by decide +kernel)) rfl
set_option maxRecDepth 100000 in
theorem tq_761 : (.code ⟨"PullSaw$Work", "hasQuarrel", "()Z"⟩ prog_9_method_16_code 1 (some .boolean) : Cond) ∈ tb_G := tb_in (List.mem_of_getElem? (i := 761) rfl) rfl
theorem tq_762 : (.methodLink "PullSaw$Work" 144 ⟨"java/lang/Math", "abs", "(I)I"⟩ : Cond) ∈ tb_G := tb_in (List.mem_of_getElem? (i := 762) (by decide +kernel)) rfl
theorem tq_763 : (.static ⟨"java/lang/Math", "abs", "(I)I"⟩ : Cond) ∈ tb_G := tb_in (List.mem_of_getElem? (i := 763) (by decide +kernel)) rfl
set_option maxRecDepth 100000 in
theorem tq_764 : (.code ⟨"java/lang/Math", "abs", "(I)I"⟩ prog_14_method_59_code 1 (some .int) : Cond) ∈ tb_G := tb_in (List.mem_of_getElem? (i := 764) rfl) rfl
theorem tq_765 : (.methodLink "PullSawLaw" 101 ⟨"PullSaw", "withWhom", "(I)I"⟩ : Cond) ∈ tb_G := tb_in (List.mem_of_getElem? (i := 765) (by decide +kernel)) rfl
theorem tq_766 : (.instanceMethod ⟨"PullSaw", "withWhom", "(I)I"⟩ : Cond) ∈ tb_G := tb_in (List.mem_of_getElem? (i := 766) (by decide +kernel)) rfl
theorem tq_767 : (.selects "PullSaw" ⟨"PullSaw", "withWhom", "(I)I"⟩ ⟨"PullSaw", "withWhom", "(I)I"⟩ : Cond) ∈ tb_G := tb_in (List.mem_of_getElem? (i := 767) (by decide +kernel)) rfl
set_option maxRecDepth 100000 in
theorem tq_768 : (.code ⟨"PullSaw", "withWhom", "(I)I"⟩ prog_1_method_23_code 3 (some .int) : Cond) ∈ tb_G := tb_in (List.mem_of_getElem? (i := 768) rfl) rfl
theorem tq_769 : (.methodLink "PullSaw" 275 ⟨"PullSaw$Trial", "findMate", "(LPullSaw$Yard;LPullSaw$Work;)I"⟩ : Cond) ∈ tb_G := tb_in (List.mem_of_getElem? (i := 769) (by decide +kernel)) rfl
theorem tq_770 : (.instanceMethod ⟨"PullSaw$Trial", "findMate", "(LPullSaw$Yard;LPullSaw$Work;)I"⟩ : Cond) ∈ tb_G := tb_in (List.mem_of_getElem? (i := 770) (by decide +kernel)) rfl
theorem tq_771 : (.selects "PullSaw$Trial" ⟨"PullSaw$Trial", "findMate", "(LPullSaw$Yard;LPullSaw$Work;)I"⟩ ⟨"PullSaw$Trial", "findMate", "(LPullSaw$Yard;LPullSaw$Work;)I"⟩ : Cond) ∈ tb_G := tb_in (List.mem_of_getElem? (i := 771) (by decide +kernel)) rfl
set_option maxRecDepth 100000 in
theorem tq_772 : (.code ⟨"PullSaw$Trial", "findMate", "(LPullSaw$Yard;LPullSaw$Work;)I"⟩ prog_8_method_10_code 12 (some .int) : Cond) ∈ tb_G := tb_in (List.mem_of_getElem? (i := 772) rfl) rfl
theorem tq_773 : (.methodLink "PullSaw$Trial" 122 ⟨"PullSaw$Trial", "strokesFresh", "(LPullSaw$Yard;LPullSaw$Work;II)I"⟩ : Cond) ∈ tb_G := tb_in (List.mem_of_getElem? (i := 773) (by decide +kernel)) rfl
theorem tq_774 : (.methodLink "PullSaw$Trial" 126 ⟨"java/lang/Math", "max", "(II)I"⟩ : Cond) ∈ tb_G := tb_in (List.mem_of_getElem? (i := 774) (by decide +kernel)) rfl
theorem tq_775 : (.methodLink "PullSawLaw" 105 ⟨"PullSaw", "changes", "(III)I"⟩ : Cond) ∈ tb_G := tb_in (List.mem_of_getElem? (i := 775) (by decide +kernel)) rfl
theorem tq_776 : (.instanceMethod ⟨"PullSaw", "changes", "(III)I"⟩ : Cond) ∈ tb_G := tb_in (List.mem_of_getElem? (i := 776) (by decide +kernel)) rfl
theorem tq_777 : (.selects "PullSaw" ⟨"PullSaw", "changes", "(III)I"⟩ ⟨"PullSaw", "changes", "(III)I"⟩ : Cond) ∈ tb_G := tb_in (List.mem_of_getElem? (i := 777) (by decide +kernel)) rfl
set_option maxRecDepth 100000 in
theorem tq_778 : (.code ⟨"PullSaw", "changes", "(III)I"⟩ prog_1_method_24_code 4 (some .int) : Cond) ∈ tb_G := tb_in (List.mem_of_getElem? (i := 778) rfl) rfl
theorem tq_779 : (.methodLink "PullSaw" 278 ⟨"PullSaw$Work", "lean", "(LPullSaw$Yard;)I"⟩ : Cond) ∈ tb_G := tb_in (List.mem_of_getElem? (i := 779) (by decide +kernel)) rfl
theorem tq_780 : (.methodLink "PullSaw" 281 ⟨"PullSaw$Balance", "weigh", "(IIII)V"⟩ : Cond) ∈ tb_G := tb_in (List.mem_of_getElem? (i := 780) (by decide +kernel)) rfl
theorem tq_781 : (.instanceMethod ⟨"PullSaw$Balance", "weigh", "(IIII)V"⟩ : Cond) ∈ tb_G := tb_in (List.mem_of_getElem? (i := 781) (by decide +kernel)) rfl
theorem tq_782 : (.selects "PullSaw$Balance" ⟨"PullSaw$Balance", "weigh", "(IIII)V"⟩ ⟨"PullSaw$Balance", "weigh", "(IIII)V"⟩ : Cond) ∈ tb_G := tb_in (List.mem_of_getElem? (i := 782) (by decide +kernel)) rfl
set_option maxRecDepth 100000 in
theorem tq_783 : (.code ⟨"PullSaw$Balance", "weigh", "(IIII)V"⟩ prog_2_method_2_code 7 none : Cond) ∈ tb_G := tb_in (List.mem_of_getElem? (i := 783) rfl) rfl
theorem tq_784 : (.methodLink "PullSaw$Balance" 31 ⟨"PullSaw$Row", "fill", "([II)V"⟩ : Cond) ∈ tb_G := tb_in (List.mem_of_getElem? (i := 784) (by decide +kernel)) rfl
theorem tq_785 : (.methodLink "PullSaw$Balance" 37 ⟨"java/lang/Math", "min", "(II)I"⟩ : Cond) ∈ tb_G := tb_in (List.mem_of_getElem? (i := 785) (by decide +kernel)) rfl
theorem tq_786 : (.methodLink "PullSaw$Balance" 43 ⟨"PullSaw$Balance", "stepBack", "()V"⟩ : Cond) ∈ tb_G := tb_in (List.mem_of_getElem? (i := 786) (by decide +kernel)) rfl
theorem tq_788 : (.instanceMethod ⟨"PullSaw$Balance", "stepBack", "()V"⟩ : Cond) ∈ tb_G := tb_in (List.mem_of_getElem? (i := 788) (by decide +kernel)) rfl
set_option maxRecDepth 100000 in
theorem tq_789 : (.code ⟨"PullSaw$Balance", "stepBack", "()V"⟩ prog_2_method_3_code 2 none : Cond) ∈ tb_G := tb_in (List.mem_of_getElem? (i := 789) rfl) rfl
theorem tq_790 : (.methodLink "PullSaw$Balance" 46 ⟨"PullSaw$Balance", "weighAhead", "(II)V"⟩ : Cond) ∈ tb_G := tb_in (List.mem_of_getElem? (i := 790) (by decide +kernel)) rfl
theorem tq_792 : (.instanceMethod ⟨"PullSaw$Balance", "weighAhead", "(II)V"⟩ : Cond) ∈ tb_G := tb_in (List.mem_of_getElem? (i := 792) (by decide +kernel)) rfl
set_option maxRecDepth 100000 in
theorem tq_793 : (.code ⟨"PullSaw$Balance", "weighAhead", "(II)V"⟩ prog_2_method_4_code 4 none : Cond) ∈ tb_G := tb_in (List.mem_of_getElem? (i := 793) rfl) rfl
theorem tq_794 : (.methodLink "PullSaw$Balance" 53 ⟨"PullSaw$Balance", "costOfStay", "(II)I"⟩ : Cond) ∈ tb_G := tb_in (List.mem_of_getElem? (i := 794) (by decide +kernel)) rfl
theorem tq_796 : (.instanceMethod ⟨"PullSaw$Balance", "costOfStay", "(II)I"⟩ : Cond) ∈ tb_G := tb_in (List.mem_of_getElem? (i := 796) (by decide +kernel)) rfl
set_option maxRecDepth 100000 in
theorem tq_797 : (.code ⟨"PullSaw$Balance", "costOfStay", "(II)I"⟩ prog_2_method_5_code 3 (some .int) : Cond) ∈ tb_G := tb_in (List.mem_of_getElem? (i := 797) rfl) rfl
theorem tq_798 : (.methodLink "PullSaw$Balance" 70 ⟨"PullSaw$Balance", "costBehind", "(II)I"⟩ : Cond) ∈ tb_G := tb_in (List.mem_of_getElem? (i := 798) (by decide +kernel)) rfl
theorem tq_800 : (.instanceMethod ⟨"PullSaw$Balance", "costBehind", "(II)I"⟩ : Cond) ∈ tb_G := tb_in (List.mem_of_getElem? (i := 800) (by decide +kernel)) rfl
set_option maxRecDepth 100000 in
theorem tq_801 : (.code ⟨"PullSaw$Balance", "costBehind", "(II)I"⟩ prog_2_method_7_code 3 (some .int) : Cond) ∈ tb_G := tb_in (List.mem_of_getElem? (i := 801) rfl) rfl
theorem tq_802 : (.methodLink "PullSaw$Balance" 73 ⟨"java/lang/Math", "abs", "(I)I"⟩ : Cond) ∈ tb_G := tb_in (List.mem_of_getElem? (i := 802) (by decide +kernel)) rfl
theorem tq_803 : (.methodLink "PullSaw$Balance" 56 ⟨"PullSaw$Balance", "place", "(II)I"⟩ : Cond) ∈ tb_G := tb_in (List.mem_of_getElem? (i := 803) (by decide +kernel)) rfl
theorem tq_804 : (.static ⟨"PullSaw$Balance", "place", "(II)I"⟩ : Cond) ∈ tb_G := tb_in (List.mem_of_getElem? (i := 804) (by decide +kernel)) rfl
set_option maxRecDepth 100000 in
theorem tq_805 : (.code ⟨"PullSaw$Balance", "place", "(II)I"⟩ prog_2_method_8_code 2 (some .int) : Cond) ∈ tb_G := tb_in (List.mem_of_getElem? (i := 805) rfl) rfl
theorem tq_806 : (.methodLink "PullSaw$Balance" 59 ⟨"PullSaw$Row", "at", "([II)I"⟩ : Cond) ∈ tb_G := tb_in (List.mem_of_getElem? (i := 806) (by decide +kernel)) rfl
theorem tq_807 : (.methodLink "PullSaw$Balance" 50 ⟨"PullSaw$Balance", "costOfChange", "(II)I"⟩ : Cond) ∈ tb_G := tb_in (List.mem_of_getElem? (i := 807) (by decide +kernel)) rfl
theorem tq_809 : (.instanceMethod ⟨"PullSaw$Balance", "costOfChange", "(II)I"⟩ : Cond) ∈ tb_G := tb_in (List.mem_of_getElem? (i := 809) (by decide +kernel)) rfl
set_option maxRecDepth 100000 in
theorem tq_810 : (.code ⟨"PullSaw$Balance", "costOfChange", "(II)I"⟩ prog_2_method_6_code 3 (some .int) : Cond) ∈ tb_G := tb_in (List.mem_of_getElem? (i := 810) rfl) rfl
theorem tq_811 : (.methodLink "PullSaw$Balance" 66 ⟨"PullSaw$Row", "put", "([III)V"⟩ : Cond) ∈ tb_G := tb_in (List.mem_of_getElem? (i := 811) (by decide +kernel)) rfl
theorem tq_812 : (.methodLink "PullSawLaw" 109 ⟨"PullSaw", "whenWedge", "(I)I"⟩ : Cond) ∈ tb_G := tb_in (List.mem_of_getElem? (i := 812) (by decide +kernel)) rfl
theorem tq_813 : (.instanceMethod ⟨"PullSaw", "whenWedge", "(I)I"⟩ : Cond) ∈ tb_G := tb_in (List.mem_of_getElem? (i := 813) (by decide +kernel)) rfl
theorem tq_814 : (.selects "PullSaw" ⟨"PullSaw", "whenWedge", "(I)I"⟩ ⟨"PullSaw", "whenWedge", "(I)I"⟩ : Cond) ∈ tb_G := tb_in (List.mem_of_getElem? (i := 814) (by decide +kernel)) rfl
set_option maxRecDepth 100000 in
theorem tq_815 : (.code ⟨"PullSaw", "whenWedge", "(I)I"⟩ prog_1_method_25_code 3 (some .int) : Cond) ∈ tb_G := tb_in (List.mem_of_getElem? (i := 815) rfl) rfl
theorem tq_816 : (.methodLink "PullSaw" 289 ⟨"PullSaw$Trial", "findWedge", "(LPullSaw$Yard;LPullSaw$Work;)I"⟩ : Cond) ∈ tb_G := tb_in (List.mem_of_getElem? (i := 816) (by decide +kernel)) rfl
theorem tq_817 : (.instanceMethod ⟨"PullSaw$Trial", "findWedge", "(LPullSaw$Yard;LPullSaw$Work;)I"⟩ : Cond) ∈ tb_G := tb_in (List.mem_of_getElem? (i := 817) (by decide +kernel)) rfl
theorem tq_818 : (.selects "PullSaw$Trial" ⟨"PullSaw$Trial", "findWedge", "(LPullSaw$Yard;LPullSaw$Work;)I"⟩ ⟨"PullSaw$Trial", "findWedge", "(LPullSaw$Yard;LPullSaw$Work;)I"⟩ : Cond) ∈ tb_G := tb_in (List.mem_of_getElem? (i := 818) (by decide +kernel)) rfl
set_option maxRecDepth 100000 in
theorem tq_819 : (.code ⟨"PullSaw$Trial", "findWedge", "(LPullSaw$Yard;LPullSaw$Work;)I"⟩ prog_8_method_11_code 6 (some .int) : Cond) ∈ tb_G := tb_in (List.mem_of_getElem? (i := 819) rfl) rfl
theorem tq_820 : (.methodLink "PullSaw$Trial" 129 ⟨"PullSaw$Trial", "strokesFrom", "(LPullSaw$Yard;LPullSaw$Work;)I"⟩ : Cond) ∈ tb_G := tb_in (List.mem_of_getElem? (i := 820) (by decide +kernel)) rfl
theorem tq_821 : (.methodLink "PullSawLaw" 113 ⟨"PullSaw", "whenRest", "(II)I"⟩ : Cond) ∈ tb_G := tb_in (List.mem_of_getElem? (i := 821) (by decide +kernel)) rfl
theorem tq_822 : (.instanceMethod ⟨"PullSaw", "whenRest", "(II)I"⟩ : Cond) ∈ tb_G := tb_in (List.mem_of_getElem? (i := 822) (by decide +kernel)) rfl
theorem tq_823 : (.selects "PullSaw" ⟨"PullSaw", "whenRest", "(II)I"⟩ ⟨"PullSaw", "whenRest", "(II)I"⟩ : Cond) ∈ tb_G := tb_in (List.mem_of_getElem? (i := 823) (by decide +kernel)) rfl
set_option maxRecDepth 100000 in
theorem tq_824 : (.code ⟨"PullSaw", "whenRest", "(II)I"⟩ prog_1_method_26_code 4 (some .int) : Cond) ∈ tb_G := tb_in (List.mem_of_getElem? (i := 824) rfl) rfl
theorem tq_825 : (.methodLink "PullSaw" 292 ⟨"PullSaw$Trial", "findRests", "(LPullSaw$Yard;LPullSaw$Work;I)I"⟩ : Cond) ∈ tb_G := tb_in (List.mem_of_getElem? (i := 825) (by decide +kernel)) rfl
theorem tq_826 : (.instanceMethod ⟨"PullSaw$Trial", "findRests", "(LPullSaw$Yard;LPullSaw$Work;I)I"⟩ : Cond) ∈ tb_G := tb_in (List.mem_of_getElem? (i := 826) (by decide +kernel)) rfl
theorem tq_827 : (.selects "PullSaw$Trial" ⟨"PullSaw$Trial", "findRests", "(LPullSaw$Yard;LPullSaw$Work;I)I"⟩ ⟨"PullSaw$Trial", "findRests", "(LPullSaw$Yard;LPullSaw$Work;I)I"⟩ : Cond) ∈ tb_G := tb_in (List.mem_of_getElem? (i := 827) (by decide +kernel)) rfl
set_option maxRecDepth 100000 in
theorem tq_828 : (.code ⟨"PullSaw$Trial", "findRests", "(LPullSaw$Yard;LPullSaw$Work;I)I"⟩ prog_8_method_12_code 9 (some .int) : Cond) ∈ tb_G := tb_in (List.mem_of_getElem? (i := 828) rfl) rfl
theorem tq_829 : (.methodLink "PullSaw$Trial" 140 ⟨"java/lang/Integer", "bitCount", "(I)I"⟩ : Cond) ∈ tb_G := tb_in (List.mem_of_getElem? (i := 829) (by decide +kernel)) rfl
theorem tq_830 : (.static ⟨"java/lang/Integer", "bitCount", "(I)I"⟩ : Cond) ∈ tb_G := tb_in (List.mem_of_getElem? (i := 830) (by decide +kernel)) rfl
set_option maxRecDepth 100000 in
theorem tq_831 : (.code ⟨"java/lang/Integer", "bitCount", "(I)I"⟩ prog_13_method_49_code 1 (some .int) : Cond) ∈ tb_G := tb_in (List.mem_of_getElem? (i := 831) rfl) rfl
theorem tq_832 : (.constant "java/lang/Integer" 265 (1431655765 : Int32) : Cond) ∈ tb_G := tb_in (List.mem_of_getElem? (i := 832) (by decide +kernel)) rfl
theorem tq_833 : (.constant "java/lang/Integer" 266 (858993459 : Int32) : Cond) ∈ tb_G := tb_in (List.mem_of_getElem? (i := 833) (by decide +kernel)) rfl
theorem tq_834 : (.constant "java/lang/Integer" 267 (252645135 : Int32) : Cond) ∈ tb_G := tb_in (List.mem_of_getElem? (i := 834) (by decide +kernel)) rfl
theorem tq_835 : (.methodLink "PullSaw$Trial" 146 ⟨"PullSaw$Trial", "depthBehind", "(LPullSaw$Yard;LPullSaw$Work;II)I"⟩ : Cond) ∈ tb_G := tb_in (List.mem_of_getElem? (i := 835) (by decide +kernel)) rfl
theorem tq_837 : (.instanceMethod ⟨"PullSaw$Trial", "depthBehind", "(LPullSaw$Yard;LPullSaw$Work;II)I"⟩ : Cond) ∈ tb_G := tb_in (List.mem_of_getElem? (i := 837) (by decide +kernel)) rfl
set_option maxRecDepth 100000 in
theorem tq_838 : (.code ⟨"PullSaw$Trial", "depthBehind", "(LPullSaw$Yard;LPullSaw$Work;II)I"⟩ prog_8_method_13_code 6 (some .int) : Cond) ∈ tb_G := tb_in (List.mem_of_getElem? (i := 838) rfl) rfl
theorem tq_839 : (.methodLink "PullSaw$Trial" 152 ⟨"PullSaw$Work", "restFor", "(I)V"⟩ : Cond) ∈ tb_G := tb_in (List.mem_of_getElem? (i := 839) (by decide +kernel)) rfl
theorem tq_840 : (.methodLink "PullSaw$Trial" 149 ⟨"PullSaw$Trial", "turnedRound", "(II)I"⟩ : Cond) ∈ tb_G := tb_in (List.mem_of_getElem? (i := 840) (by decide +kernel)) rfl
theorem tq_841 : (.static ⟨"PullSaw$Trial", "turnedRound", "(II)I"⟩ : Cond) ∈ tb_G := tb_in (List.mem_of_getElem? (i := 841) (by decide +kernel)) rfl
set_option maxRecDepth 100000 in
theorem tq_842 : (.code ⟨"PullSaw$Trial", "turnedRound", "(II)I"⟩ prog_8_method_14_code 4 (some .int) : Cond) ∈ tb_G := tb_in (List.mem_of_getElem? (i := 842) rfl) rfl
theorem tq_843 : (.methodLink "PullSawLaw" 117 ⟨"PullSaw", "worthFile", "()I"⟩ : Cond) ∈ tb_G := tb_in (List.mem_of_getElem? (i := 843) (by decide +kernel)) rfl
theorem tq_844 : (.instanceMethod ⟨"PullSaw", "worthFile", "()I"⟩ : Cond) ∈ tb_G := tb_in (List.mem_of_getElem? (i := 844) (by decide +kernel)) rfl
theorem tq_845 : (.selects "PullSaw" ⟨"PullSaw", "worthFile", "()I"⟩ ⟨"PullSaw", "worthFile", "()I"⟩ : Cond) ∈ tb_G := tb_in (List.mem_of_getElem? (i := 845) (by decide +kernel)) rfl
set_option maxRecDepth 100000 in
theorem tq_846 : (.code ⟨"PullSaw", "worthFile", "()I"⟩ prog_1_method_27_code 1 (some .int) : Cond) ∈ tb_G := tb_in (List.mem_of_getElem? (i := 846) rfl) rfl
theorem tq_847 : (.methodLink "PullSaw" 299 ⟨"PullSaw$Trial", "gainByFile", "(LPullSaw$Yard;LPullSaw$Work;)I"⟩ : Cond) ∈ tb_G := tb_in (List.mem_of_getElem? (i := 847) (by decide +kernel)) rfl
theorem tq_848 : (.instanceMethod ⟨"PullSaw$Trial", "gainByFile", "(LPullSaw$Yard;LPullSaw$Work;)I"⟩ : Cond) ∈ tb_G := tb_in (List.mem_of_getElem? (i := 848) (by decide +kernel)) rfl
theorem tq_849 : (.selects "PullSaw$Trial" ⟨"PullSaw$Trial", "gainByFile", "(LPullSaw$Yard;LPullSaw$Work;)I"⟩ ⟨"PullSaw$Trial", "gainByFile", "(LPullSaw$Yard;LPullSaw$Work;)I"⟩ : Cond) ∈ tb_G := tb_in (List.mem_of_getElem? (i := 849) (by decide +kernel)) rfl
set_option maxRecDepth 100000 in
theorem tq_850 : (.code ⟨"PullSaw$Trial", "gainByFile", "(LPullSaw$Yard;LPullSaw$Work;)I"⟩ prog_8_method_15_code 4 (some .int) : Cond) ∈ tb_G := tb_in (List.mem_of_getElem? (i := 850) rfl) rfl
theorem tq_851 : (.methodLink "PullSawLaw" 121 ⟨"PullSaw", "see", "(I)I"⟩ : Cond) ∈ tb_G := tb_in (List.mem_of_getElem? (i := 851) (by decide +kernel)) rfl
theorem tq_852 : (.instanceMethod ⟨"PullSaw", "see", "(I)I"⟩ : Cond) ∈ tb_G := tb_in (List.mem_of_getElem? (i := 852) (by decide +kernel)) rfl
theorem tq_853 : (.selects "PullSaw" ⟨"PullSaw", "see", "(I)I"⟩ ⟨"PullSaw", "see", "(I)I"⟩ : Cond) ∈ tb_G := tb_in (List.mem_of_getElem? (i := 853) (by decide +kernel)) rfl
set_option maxRecDepth 100000 in
theorem tq_854 : (.code ⟨"PullSaw", "see", "(I)I"⟩ prog_1_method_28_code 2 (some .int) : Cond) ∈ tb_G := tb_in (List.mem_of_getElem? (i := 854) rfl) rfl
theorem tq_855 : (.methodLink "PullSaw" 302 ⟨"PullSaw", "addCut", "(LPullSaw$Sheet;I)I"⟩ : Cond) ∈ tb_G := tb_in (List.mem_of_getElem? (i := 855) (by decide +kernel)) rfl
theorem tq_856 : (.static ⟨"PullSaw", "addCut", "(LPullSaw$Sheet;I)I"⟩ : Cond) ∈ tb_G := tb_in (List.mem_of_getElem? (i := 856) (by decide +kernel)) rfl
set_option maxRecDepth 100000 in
theorem tq_857 : (.code ⟨"PullSaw", "addCut", "(LPullSaw$Sheet;I)I"⟩ prog_1_method_42_code 2 (some .int) : Cond) ∈ tb_G := tb_in (List.mem_of_getElem? (i := 857) rfl) rfl
theorem tq_858 : (.methodLink "PullSawLaw" 125 ⟨"PullSaw", "habits", "(II)I"⟩ : Cond) ∈ tb_G := tb_in (List.mem_of_getElem? (i := 858) (by decide +kernel)) rfl
theorem tq_859 : (.instanceMethod ⟨"PullSaw", "habits", "(II)I"⟩ : Cond) ∈ tb_G := tb_in (List.mem_of_getElem? (i := 859) (by decide +kernel)) rfl
theorem tq_860 : (.selects "PullSaw" ⟨"PullSaw", "habits", "(II)I"⟩ ⟨"PullSaw", "habits", "(II)I"⟩ : Cond) ∈ tb_G := tb_in (List.mem_of_getElem? (i := 860) (by decide +kernel)) rfl
set_option maxRecDepth 100000 in
theorem tq_861 : (.code ⟨"PullSaw", "habits", "(II)I"⟩ prog_1_method_29_code 4 (some .int) : Cond) ∈ tb_G := tb_in (List.mem_of_getElem? (i := 861) rfl) rfl
theorem tq_862 : (.methodLink "PullSaw" 306 ⟨"PullSaw$Trial", "habitsThatFit", "(LPullSaw$Yard;LPullSaw$Work;IILPullSaw$Sheet;)I"⟩ : Cond) ∈ tb_G := tb_in (List.mem_of_getElem? (i := 862) (by decide +kernel)) rfl
theorem tq_863 : (.instanceMethod ⟨"PullSaw$Trial", "habitsThatFit", "(LPullSaw$Yard;LPullSaw$Work;IILPullSaw$Sheet;)I"⟩ : Cond) ∈ tb_G := tb_in (List.mem_of_getElem? (i := 863) (by decide +kernel)) rfl
theorem tq_864 : (.selects "PullSaw$Trial" ⟨"PullSaw$Trial", "habitsThatFit", "(LPullSaw$Yard;LPullSaw$Work;IILPullSaw$Sheet;)I"⟩ ⟨"PullSaw$Trial", "habitsThatFit", "(LPullSaw$Yard;LPullSaw$Work;IILPullSaw$Sheet;)I"⟩ : Cond) ∈ tb_G := tb_in (List.mem_of_getElem? (i := 864) (by decide +kernel)) rfl
set_option maxRecDepth 100000 in
theorem tq_865 : (.code ⟨"PullSaw$Trial", "habitsThatFit", "(LPullSaw$Yard;LPullSaw$Work;IILPullSaw$Sheet;)I"⟩ prog_8_method_16_code 8 (some .int) : Cond) ∈ tb_G := tb_in (List.mem_of_getElem? (i := 865) rfl) rfl
theorem tq_866 : (.methodLink "PullSaw$Trial" 165 ⟨"PullSaw$Trial", "firstWrong", "(LPullSaw$Yard;LPullSaw$Sheet;)I"⟩ : Cond) ∈ tb_G := tb_in (List.mem_of_getElem? (i := 866) (by decide +kernel)) rfl
theorem tq_868 : (.instanceMethod ⟨"PullSaw$Trial", "firstWrong", "(LPullSaw$Yard;LPullSaw$Sheet;)I"⟩ : Cond) ∈ tb_G := tb_in (List.mem_of_getElem? (i := 868) (by decide +kernel)) rfl
set_option maxRecDepth 100000 in
theorem tq_869 : (.code ⟨"PullSaw$Trial", "firstWrong", "(LPullSaw$Yard;LPullSaw$Sheet;)I"⟩ prog_8_method_20_code 4 (some .int) : Cond) ∈ tb_G := tb_in (List.mem_of_getElem? (i := 869) rfl) rfl
theorem tq_870 : (.methodLink "PullSaw$Trial" 178 ⟨"PullSaw$Sheet", "mark", "(I)I"⟩ : Cond) ∈ tb_G := tb_in (List.mem_of_getElem? (i := 870) (by decide +kernel)) rfl
theorem tq_871 : (.methodLink "PullSawLaw" 129 ⟨"PullSaw", "end", "(I)I"⟩ : Cond) ∈ tb_G := tb_in (List.mem_of_getElem? (i := 871) (by decide +kernel)) rfl
theorem tq_872 : (.instanceMethod ⟨"PullSaw", "end", "(I)I"⟩ : Cond) ∈ tb_G := tb_in (List.mem_of_getElem? (i := 872) (by decide +kernel)) rfl
theorem tq_873 : (.selects "PullSaw" ⟨"PullSaw", "end", "(I)I"⟩ ⟨"PullSaw", "end", "(I)I"⟩ : Cond) ∈ tb_G := tb_in (List.mem_of_getElem? (i := 873) (by decide +kernel)) rfl
set_option maxRecDepth 100000 in
theorem tq_874 : (.code ⟨"PullSaw", "end", "(I)I"⟩ prog_1_method_30_code 2 (some .int) : Cond) ∈ tb_G := tb_in (List.mem_of_getElem? (i := 874) rfl) rfl
theorem tq_875 : (.methodLink "PullSaw" 310 ⟨"PullSaw$Trial", "pairThatFits", "(LPullSaw$Yard;LPullSaw$Work;LPullSaw$Sheet;I)I"⟩ : Cond) ∈ tb_G := tb_in (List.mem_of_getElem? (i := 875) (by decide +kernel)) rfl
theorem tq_876 : (.instanceMethod ⟨"PullSaw$Trial", "pairThatFits", "(LPullSaw$Yard;LPullSaw$Work;LPullSaw$Sheet;I)I"⟩ : Cond) ∈ tb_G := tb_in (List.mem_of_getElem? (i := 876) (by decide +kernel)) rfl
theorem tq_877 : (.selects "PullSaw$Trial" ⟨"PullSaw$Trial", "pairThatFits", "(LPullSaw$Yard;LPullSaw$Work;LPullSaw$Sheet;I)I"⟩ ⟨"PullSaw$Trial", "pairThatFits", "(LPullSaw$Yard;LPullSaw$Work;LPullSaw$Sheet;I)I"⟩ : Cond) ∈ tb_G := tb_in (List.mem_of_getElem? (i := 877) (by decide +kernel)) rfl
set_option maxRecDepth 100000 in
theorem tq_878 : (.code ⟨"PullSaw$Trial", "pairThatFits", "(LPullSaw$Yard;LPullSaw$Work;LPullSaw$Sheet;I)I"⟩ prog_8_method_17_code 8 (some .int) : Cond) ∈ tb_G := tb_in (List.mem_of_getElem? (i := 878) rfl) rfl
theorem tq_879 : (.methodLink "PullSaw$Trial" 169 ⟨"PullSaw$Trial", "fits", "(LPullSaw$Yard;LPullSaw$Work;IILPullSaw$Sheet;)Z"⟩ : Cond) ∈ tb_G := tb_in (List.mem_of_getElem? (i := 879) (by decide +kernel)) rfl
theorem tq_881 : (.instanceMethod ⟨"PullSaw$Trial", "fits", "(LPullSaw$Yard;LPullSaw$Work;IILPullSaw$Sheet;)Z"⟩ : Cond) ∈ tb_G := tb_in (List.mem_of_getElem? (i := 881) (by decide +kernel)) rfl
set_option maxRecDepth 100000 in
theorem tq_882 : (.code ⟨"PullSaw$Trial", "fits", "(LPullSaw$Yard;LPullSaw$Work;IILPullSaw$Sheet;)Z"⟩ prog_8_method_18_code 6 (some .boolean) : Cond) ∈ tb_G := tb_in (List.mem_of_getElem? (i := 882) rfl) rfl
theorem tq_883 : (.methodLink "PullSawLaw" 133 ⟨"PullSaw", "write", "(I)I"⟩ : Cond) ∈ tb_G := tb_in (List.mem_of_getElem? (i := 883) (by decide +kernel)) rfl
theorem tq_884 : (.instanceMethod ⟨"PullSaw", "write", "(I)I"⟩ : Cond) ∈ tb_G := tb_in (List.mem_of_getElem? (i := 884) (by decide +kernel)) rfl
theorem tq_885 : (.selects "PullSaw" ⟨"PullSaw", "write", "(I)I"⟩ ⟨"PullSaw", "write", "(I)I"⟩ : Cond) ∈ tb_G := tb_in (List.mem_of_getElem? (i := 885) (by decide +kernel)) rfl
set_option maxRecDepth 100000 in
theorem tq_886 : (.code ⟨"PullSaw", "write", "(I)I"⟩ prog_1_method_31_code 2 (some .int) : Cond) ∈ tb_G := tb_in (List.mem_of_getElem? (i := 886) rfl) rfl
theorem tq_887 : (.methodLink "PullSawLaw" 137 ⟨"PullSaw", "judge", "()I"⟩ : Cond) ∈ tb_G := tb_in (List.mem_of_getElem? (i := 887) (by decide +kernel)) rfl
theorem tq_888 : (.instanceMethod ⟨"PullSaw", "judge", "()I"⟩ : Cond) ∈ tb_G := tb_in (List.mem_of_getElem? (i := 888) (by decide +kernel)) rfl
theorem tq_889 : (.selects "PullSaw" ⟨"PullSaw", "judge", "()I"⟩ ⟨"PullSaw", "judge", "()I"⟩ : Cond) ∈ tb_G := tb_in (List.mem_of_getElem? (i := 889) (by decide +kernel)) rfl
set_option maxRecDepth 100000 in
theorem tq_890 : (.code ⟨"PullSaw", "judge", "()I"⟩ prog_1_method_32_code 1 (some .int) : Cond) ∈ tb_G := tb_in (List.mem_of_getElem? (i := 890) rfl) rfl
theorem tq_891 : (.methodLink "PullSaw" 314 ⟨"PullSaw$Trial", "wrongLine", "(LPullSaw$Yard;LPullSaw$Work;LPullSaw$Sheet;)I"⟩ : Cond) ∈ tb_G := tb_in (List.mem_of_getElem? (i := 891) (by decide +kernel)) rfl
theorem tq_892 : (.instanceMethod ⟨"PullSaw$Trial", "wrongLine", "(LPullSaw$Yard;LPullSaw$Work;LPullSaw$Sheet;)I"⟩ : Cond) ∈ tb_G := tb_in (List.mem_of_getElem? (i := 892) (by decide +kernel)) rfl
theorem tq_893 : (.selects "PullSaw$Trial" ⟨"PullSaw$Trial", "wrongLine", "(LPullSaw$Yard;LPullSaw$Work;LPullSaw$Sheet;)I"⟩ ⟨"PullSaw$Trial", "wrongLine", "(LPullSaw$Yard;LPullSaw$Work;LPullSaw$Sheet;)I"⟩ : Cond) ∈ tb_G := tb_in (List.mem_of_getElem? (i := 893) (by decide +kernel)) rfl
set_option maxRecDepth 100000 in
theorem tq_894 : (.code ⟨"PullSaw$Trial", "wrongLine", "(LPullSaw$Yard;LPullSaw$Work;LPullSaw$Sheet;)I"⟩ prog_8_method_19_code 4 (some .int) : Cond) ∈ tb_G := tb_in (List.mem_of_getElem? (i := 894) rfl) rfl
theorem tq_895 : (.methodLink "PullSawLaw" 141 ⟨"PullSaw", "tear", "()I"⟩ : Cond) ∈ tb_G := tb_in (List.mem_of_getElem? (i := 895) (by decide +kernel)) rfl
theorem tq_896 : (.instanceMethod ⟨"PullSaw", "tear", "()I"⟩ : Cond) ∈ tb_G := tb_in (List.mem_of_getElem? (i := 896) (by decide +kernel)) rfl
theorem tq_897 : (.selects "PullSaw" ⟨"PullSaw", "tear", "()I"⟩ ⟨"PullSaw", "tear", "()I"⟩ : Cond) ∈ tb_G := tb_in (List.mem_of_getElem? (i := 897) (by decide +kernel)) rfl
set_option maxRecDepth 100000 in
theorem tq_898 : (.code ⟨"PullSaw", "tear", "()I"⟩ prog_1_method_33_code 2 (some .int) : Cond) ∈ tb_G := tb_in (List.mem_of_getElem? (i := 898) rfl) rfl
theorem tq_899 : (.methodLink "PullSawLaw" 145 ⟨"PullSaw", "seed", "(I)I"⟩ : Cond) ∈ tb_G := tb_in (List.mem_of_getElem? (i := 899) (by decide +kernel)) rfl
theorem tq_900 : (.instanceMethod ⟨"PullSaw", "seed", "(I)I"⟩ : Cond) ∈ tb_G := tb_in (List.mem_of_getElem? (i := 900) (by decide +kernel)) rfl
theorem tq_901 : (.selects "PullSaw" ⟨"PullSaw", "seed", "(I)I"⟩ ⟨"PullSaw", "seed", "(I)I"⟩ : Cond) ∈ tb_G := tb_in (List.mem_of_getElem? (i := 901) (by decide +kernel)) rfl
set_option maxRecDepth 100000 in
theorem tq_902 : (.code ⟨"PullSaw", "seed", "(I)I"⟩ prog_1_method_34_code 3 (some .int) : Cond) ∈ tb_G := tb_in (List.mem_of_getElem? (i := 902) rfl) rfl
theorem tq_903 : (.methodLink "PullSawLaw" 149 ⟨"PullSaw", "keep", "(I)I"⟩ : Cond) ∈ tb_G := tb_in (List.mem_of_getElem? (i := 903) (by decide +kernel)) rfl
theorem tq_904 : (.instanceMethod ⟨"PullSaw", "keep", "(I)I"⟩ : Cond) ∈ tb_G := tb_in (List.mem_of_getElem? (i := 904) (by decide +kernel)) rfl
theorem tq_905 : (.selects "PullSaw" ⟨"PullSaw", "keep", "(I)I"⟩ ⟨"PullSaw", "keep", "(I)I"⟩ : Cond) ∈ tb_G := tb_in (List.mem_of_getElem? (i := 905) (by decide +kernel)) rfl
set_option maxRecDepth 100000 in
theorem tq_906 : (.code ⟨"PullSaw", "keep", "(I)I"⟩ prog_1_method_35_code 3 (some .int) : Cond) ∈ tb_G := tb_in (List.mem_of_getElem? (i := 906) rfl) rfl
theorem tq_907 : (.methodLink "PullSaw" 324 ⟨"PullSaw$Work", "become", "(LPullSaw$Work;)V"⟩ : Cond) ∈ tb_G := tb_in (List.mem_of_getElem? (i := 907) (by decide +kernel)) rfl
theorem tq_908 : (.methodLink "PullSawLaw" 153 ⟨"PullSaw", "goBack", "(I)I"⟩ : Cond) ∈ tb_G := tb_in (List.mem_of_getElem? (i := 908) (by decide +kernel)) rfl
theorem tq_909 : (.instanceMethod ⟨"PullSaw", "goBack", "(I)I"⟩ : Cond) ∈ tb_G := tb_in (List.mem_of_getElem? (i := 909) (by decide +kernel)) rfl
theorem tq_910 : (.selects "PullSaw" ⟨"PullSaw", "goBack", "(I)I"⟩ ⟨"PullSaw", "goBack", "(I)I"⟩ : Cond) ∈ tb_G := tb_in (List.mem_of_getElem? (i := 910) (by decide +kernel)) rfl
set_option maxRecDepth 100000 in
theorem tq_911 : (.code ⟨"PullSaw", "goBack", "(I)I"⟩ prog_1_method_36_code 3 (some .int) : Cond) ∈ tb_G := tb_in (List.mem_of_getElem? (i := 911) rfl) rfl
theorem tq_912 : (.classLink "PullSawLaw" 10 "PullSawModel" : Cond) ∈ tb_G := tb_in (List.mem_of_getElem? (i := 912) (by decide +kernel)) rfl
theorem tq_913 : (.instantiable "PullSawModel" 35 : Cond) ∈ tb_G := tb_in (List.mem_of_getElem? (i := 913) (by decide +kernel)) rfl
theorem tq_914 : (.methodLink "PullSawLaw" 12 ⟨"PullSawModel", "<init>", "()V"⟩ : Cond) ∈ tb_G := tb_in (List.mem_of_getElem? (i := 914) (by decide +kernel)) rfl
theorem tq_915 : (.instanceMethod ⟨"PullSawModel", "<init>", "()V"⟩ : Cond) ∈ tb_G := tb_in (List.mem_of_getElem? (i := 915) (by decide +kernel)) rfl
set_option maxRecDepth 100000 in
theorem tq_916 : (.code ⟨"PullSawModel", "<init>", "()V"⟩ prog_12_method_1_code 1 none : Cond) ∈ tb_G := tb_in (List.mem_of_getElem? (i := 916) rfl) rfl
theorem tq_917 : (.methodLink "PullSawModel" 1 ⟨"java/lang/Object", "<init>", "()V"⟩ : Cond) ∈ tb_G := tb_in (List.mem_of_getElem? (i := 917) (by decide +kernel)) rfl
theorem tq_918 : (.fieldLink "PullSawModel" 7 "PullSawModel" "w" "[I" : Cond) ∈ tb_G := tb_in (List.mem_of_getElem? (i := 918) (by decide +kernel)) rfl
theorem tq_919 : (.fieldLink "PullSawModel" 13 "PullSawModel" "isKept" "[Z" : Cond) ∈ tb_G := tb_in (List.mem_of_getElem? (i := 919) (by decide +kernel)) rfl
theorem tq_920 : (.fieldLink "PullSawModel" 144 "PullSawModel" "layers" "I" : Cond) ∈ tb_G := tb_in (List.mem_of_getElem? (i := 920) (by decide +kernel)) rfl
theorem tq_921 : (.fieldLink "PullSawModel" 147 "PullSawModel" "people" "I" : Cond) ∈ tb_G := tb_in (List.mem_of_getElem? (i := 921) (by decide +kernel)) rfl
theorem tq_922 : (.fieldLink "PullSawModel" 60 "PullSawModel" "limit" "I" : Cond) ∈ tb_G := tb_in (List.mem_of_getElem? (i := 922) (by decide +kernel)) rfl
theorem tq_923 : (.fieldLink "PullSawModel" 150 "PullSawModel" "resin" "I" : Cond) ∈ tb_G := tb_in (List.mem_of_getElem? (i := 923) (by decide +kernel)) rfl
theorem tq_924 : (.fieldLink "PullSawModel" 63 "PullSawModel" "closes" "I" : Cond) ∈ tb_G := tb_in (List.mem_of_getElem? (i := 924) (by decide +kernel)) rfl
theorem tq_925 : (.fieldLink "PullSawModel" 99 "PullSawModel" "newLayers" "I" : Cond) ∈ tb_G := tb_in (List.mem_of_getElem? (i := 925) (by decide +kernel)) rfl
theorem tq_926 : (.fieldLink "PullSawModel" 106 "PullSawModel" "newPeople" "I" : Cond) ∈ tb_G := tb_in (List.mem_of_getElem? (i := 926) (by decide +kernel)) rfl
theorem tq_927 : (.fieldLink "PullSawModel" 123 "PullSawModel" "newTeeth" "I" : Cond) ∈ tb_G := tb_in (List.mem_of_getElem? (i := 927) (by decide +kernel)) rfl
theorem tq_928 : (.fieldLink "PullSawModel" 126 "PullSawModel" "newLimit" "I" : Cond) ∈ tb_G := tb_in (List.mem_of_getElem? (i := 928) (by decide +kernel)) rfl
theorem tq_929 : (.fieldLink "PullSawModel" 129 "PullSawModel" "newResin" "I" : Cond) ∈ tb_G := tb_in (List.mem_of_getElem? (i := 929) (by decide +kernel)) rfl
theorem tq_930 : (.fieldLink "PullSawModel" 132 "PullSawModel" "newCloses" "I" : Cond) ∈ tb_G := tb_in (List.mem_of_getElem? (i := 930) (by decide +kernel)) rfl
theorem tq_931 : (.fieldLink "PullSawModel" 113 "PullSawModel" "told" "I" : Cond) ∈ tb_G := tb_in (List.mem_of_getElem? (i := 931) (by decide +kernel)) rfl
theorem tq_932 : (.fieldLink "PullSawModel" 17 "PullSawModel" "wood" "[I" : Cond) ∈ tb_G := tb_in (List.mem_of_getElem? (i := 932) (by decide +kernel)) rfl
theorem tq_933 : (.fieldLink "PullSawModel" 20 "PullSawModel" "force" "[I" : Cond) ∈ tb_G := tb_in (List.mem_of_getElem? (i := 933) (by decide +kernel)) rfl
theorem tq_934 : (.fieldLink "PullSawModel" 23 "PullSawModel" "height" "[I" : Cond) ∈ tb_G := tb_in (List.mem_of_getElem? (i := 934) (by decide +kernel)) rfl
theorem tq_935 : (.fieldLink "PullSawModel" 26 "PullSawModel" "tires" "[I" : Cond) ∈ tb_G := tb_in (List.mem_of_getElem? (i := 935) (by decide +kernel)) rfl
theorem tq_936 : (.fieldLink "PullSawModel" 29 "PullSawModel" "habit" "[I" : Cond) ∈ tb_G := tb_in (List.mem_of_getElem? (i := 936) (by decide +kernel)) rfl
theorem tq_937 : (.fieldLink "PullSawModel" 32 "PullSawModel" "bent" "[I" : Cond) ∈ tb_G := tb_in (List.mem_of_getElem? (i := 937) (by decide +kernel)) rfl
theorem tq_938 : (.fieldLink "PullSawModel" 35 "PullSawModel" "text" "[I" : Cond) ∈ tb_G := tb_in (List.mem_of_getElem? (i := 938) (by decide +kernel)) rfl
theorem tq_939 : (.fieldLink "PullSawModel" 73 "PullSawModel" "textSize" "I" : Cond) ∈ tb_G := tb_in (List.mem_of_getElem? (i := 939) (by decide +kernel)) rfl
theorem tq_940 : (.fieldLink "PullSawModel" 77 "PullSawModel" "at" "I" : Cond) ∈ tb_G := tb_in (List.mem_of_getElem? (i := 940) (by decide +kernel)) rfl
theorem tq_941 : (.fieldLink "PullSawModel" 87 "PullSawModel" "first" "I" : Cond) ∈ tb_G := tb_in (List.mem_of_getElem? (i := 941) (by decide +kernel)) rfl
theorem tq_942 : (.fieldLink "PullSawModel" 80 "PullSawModel" "faultOf" "I" : Cond) ∈ tb_G := tb_in (List.mem_of_getElem? (i := 942) (by decide +kernel)) rfl
theorem tq_943 : (.fieldLink "PullSawModel" 38 "PullSawModel" "fault" "I" : Cond) ∈ tb_G := tb_in (List.mem_of_getElem? (i := 943) (by decide +kernel)) rfl
theorem tq_944 : (.fieldLink "PullSawModel" 163 "PullSawModel" "undoMany" "I" : Cond) ∈ tb_G := tb_in (List.mem_of_getElem? (i := 944) (by decide +kernel)) rfl
theorem tq_945 : (.fieldLink "PullSawModel" 42 "PullSawModel" "change" "[I" : Cond) ∈ tb_G := tb_in (List.mem_of_getElem? (i := 945) (by decide +kernel)) rfl
theorem tq_946 : (.fieldLink "PullSawModel" 45 "PullSawModel" "changeThen" "[I" : Cond) ∈ tb_G := tb_in (List.mem_of_getElem? (i := 946) (by decide +kernel)) rfl
theorem tq_947 : (.fieldLink "PullSawModel" 48 "PullSawModel" "late" "[I" : Cond) ∈ tb_G := tb_in (List.mem_of_getElem? (i := 947) (by decide +kernel)) rfl
theorem tq_948 : (.fieldLink "PullSawModel" 51 "PullSawModel" "lateThen" "[I" : Cond) ∈ tb_G := tb_in (List.mem_of_getElem? (i := 948) (by decide +kernel)) rfl
theorem tq_949 : (.fieldLink "PullSawModel" 54 "PullSawModel" "seen" "[I" : Cond) ∈ tb_G := tb_in (List.mem_of_getElem? (i := 949) (by decide +kernel)) rfl
theorem tq_950 : (.fieldLink "PullSawModel" 157 "PullSawModel" "seenMany" "I" : Cond) ∈ tb_G := tb_in (List.mem_of_getElem? (i := 950) (by decide +kernel)) rfl
theorem tq_951 : (.fieldLink "PullSawModel" 57 "PullSawModel" "book" "[I" : Cond) ∈ tb_G := tb_in (List.mem_of_getElem? (i := 951) (by decide +kernel)) rfl
theorem tq_952 : (.fieldLink "PullSawModel" 160 "PullSawModel" "written" "I" : Cond) ∈ tb_G := tb_in (List.mem_of_getElem? (i := 952) (by decide +kernel)) rfl
theorem tq_953 : (.laysFinal "PullSawModel" "PullSawModel" "w" "[I" : Cond) ∈ tb_G := tb_in (List.mem_of_getElem? (i := 953) (by decide +kernel)) rfl
theorem tq_955 : (.laysFinal "PullSawModel" "PullSawModel" "isKept" "[Z" : Cond) ∈ tb_G := tb_in (List.mem_of_getElem? (i := 955) (by decide +kernel)) rfl
theorem tq_957 : (.lays "PullSawModel" "PullSawModel" "layers" "I" : Cond) ∈ tb_G := tb_in (List.mem_of_getElem? (i := 957) (by decide +kernel)) rfl
theorem tq_959 : (.lays "PullSawModel" "PullSawModel" "people" "I" : Cond) ∈ tb_G := tb_in (List.mem_of_getElem? (i := 959) (by decide +kernel)) rfl
theorem tq_961 : (.lays "PullSawModel" "PullSawModel" "limit" "I" : Cond) ∈ tb_G := tb_in (List.mem_of_getElem? (i := 961) (by decide +kernel)) rfl
theorem tq_963 : (.lays "PullSawModel" "PullSawModel" "resin" "I" : Cond) ∈ tb_G := tb_in (List.mem_of_getElem? (i := 963) (by decide +kernel)) rfl
theorem tq_965 : (.lays "PullSawModel" "PullSawModel" "closes" "I" : Cond) ∈ tb_G := tb_in (List.mem_of_getElem? (i := 965) (by decide +kernel)) rfl
theorem tq_967 : (.lays "PullSawModel" "PullSawModel" "newLayers" "I" : Cond) ∈ tb_G := tb_in (List.mem_of_getElem? (i := 967) (by decide +kernel)) rfl
theorem tq_969 : (.lays "PullSawModel" "PullSawModel" "newPeople" "I" : Cond) ∈ tb_G := tb_in (List.mem_of_getElem? (i := 969) (by decide +kernel)) rfl
theorem tq_971 : (.lays "PullSawModel" "PullSawModel" "newTeeth" "I" : Cond) ∈ tb_G := tb_in (List.mem_of_getElem? (i := 971) (by decide +kernel)) rfl
theorem tq_973 : (.lays "PullSawModel" "PullSawModel" "newLimit" "I" : Cond) ∈ tb_G := tb_in (List.mem_of_getElem? (i := 973) (by decide +kernel)) rfl
theorem tq_975 : (.lays "PullSawModel" "PullSawModel" "newResin" "I" : Cond) ∈ tb_G := tb_in (List.mem_of_getElem? (i := 975) (by decide +kernel)) rfl
theorem tq_977 : (.lays "PullSawModel" "PullSawModel" "newCloses" "I" : Cond) ∈ tb_G := tb_in (List.mem_of_getElem? (i := 977) (by decide +kernel)) rfl
theorem tq_979 : (.lays "PullSawModel" "PullSawModel" "told" "I" : Cond) ∈ tb_G := tb_in (List.mem_of_getElem? (i := 979) (by decide +kernel)) rfl
theorem tq_981 : (.laysFinal "PullSawModel" "PullSawModel" "wood" "[I" : Cond) ∈ tb_G := tb_in (List.mem_of_getElem? (i := 981) (by decide +kernel)) rfl
theorem tq_983 : (.laysFinal "PullSawModel" "PullSawModel" "force" "[I" : Cond) ∈ tb_G := tb_in (List.mem_of_getElem? (i := 983) (by decide +kernel)) rfl
theorem tq_985 : (.laysFinal "PullSawModel" "PullSawModel" "height" "[I" : Cond) ∈ tb_G := tb_in (List.mem_of_getElem? (i := 985) (by decide +kernel)) rfl
theorem tq_987 : (.laysFinal "PullSawModel" "PullSawModel" "tires" "[I" : Cond) ∈ tb_G := tb_in (List.mem_of_getElem? (i := 987) (by decide +kernel)) rfl
theorem tq_989 : (.laysFinal "PullSawModel" "PullSawModel" "habit" "[I" : Cond) ∈ tb_G := tb_in (List.mem_of_getElem? (i := 989) (by decide +kernel)) rfl
theorem tq_991 : (.laysFinal "PullSawModel" "PullSawModel" "bent" "[I" : Cond) ∈ tb_G := tb_in (List.mem_of_getElem? (i := 991) (by decide +kernel)) rfl
theorem tq_993 : (.laysFinal "PullSawModel" "PullSawModel" "text" "[I" : Cond) ∈ tb_G := tb_in (List.mem_of_getElem? (i := 993) (by decide +kernel)) rfl
theorem tq_995 : (.lays "PullSawModel" "PullSawModel" "textSize" "I" : Cond) ∈ tb_G := tb_in (List.mem_of_getElem? (i := 995) (by decide +kernel)) rfl
theorem tq_997 : (.lays "PullSawModel" "PullSawModel" "at" "I" : Cond) ∈ tb_G := tb_in (List.mem_of_getElem? (i := 997) (by decide +kernel)) rfl
theorem tq_999 : (.lays "PullSawModel" "PullSawModel" "first" "I" : Cond) ∈ tb_G := tb_in (List.mem_of_getElem? (i := 999) (by decide +kernel)) rfl
theorem tq_1001 : (.lays "PullSawModel" "PullSawModel" "faultOf" "I" : Cond) ∈ tb_G := tb_in (List.mem_of_getElem? (i := 1001) (by decide +kernel)) rfl
theorem tq_1003 : (.lays "PullSawModel" "PullSawModel" "fault" "I" : Cond) ∈ tb_G := tb_in (List.mem_of_getElem? (i := 1003) (by decide +kernel)) rfl
theorem tq_1005 : (.lays "PullSawModel" "PullSawModel" "undoMany" "I" : Cond) ∈ tb_G := tb_in (List.mem_of_getElem? (i := 1005) (by decide +kernel)) rfl
theorem tq_1007 : (.laysFinal "PullSawModel" "PullSawModel" "change" "[I" : Cond) ∈ tb_G := tb_in (List.mem_of_getElem? (i := 1007) (by decide +kernel)) rfl
theorem tq_1009 : (.laysFinal "PullSawModel" "PullSawModel" "changeThen" "[I" : Cond) ∈ tb_G := tb_in (List.mem_of_getElem? (i := 1009) (by decide +kernel)) rfl
theorem tq_1011 : (.laysFinal "PullSawModel" "PullSawModel" "late" "[I" : Cond) ∈ tb_G := tb_in (List.mem_of_getElem? (i := 1011) (by decide +kernel)) rfl
theorem tq_1013 : (.laysFinal "PullSawModel" "PullSawModel" "lateThen" "[I" : Cond) ∈ tb_G := tb_in (List.mem_of_getElem? (i := 1013) (by decide +kernel)) rfl
theorem tq_1015 : (.laysFinal "PullSawModel" "PullSawModel" "seen" "[I" : Cond) ∈ tb_G := tb_in (List.mem_of_getElem? (i := 1015) (by decide +kernel)) rfl
theorem tq_1017 : (.lays "PullSawModel" "PullSawModel" "seenMany" "I" : Cond) ∈ tb_G := tb_in (List.mem_of_getElem? (i := 1017) (by decide +kernel)) rfl
theorem tq_1019 : (.laysFinal "PullSawModel" "PullSawModel" "book" "[I" : Cond) ∈ tb_G := tb_in (List.mem_of_getElem? (i := 1019) (by decide +kernel)) rfl
theorem tq_1021 : (.lays "PullSawModel" "PullSawModel" "written" "I" : Cond) ∈ tb_G := tb_in (List.mem_of_getElem? (i := 1021) (by decide +kernel)) rfl
theorem tq_1024 : (.arrayClass .boolean : Cond) ∈ tb_G := tb_in (List.mem_of_getElem? (i := 1024) (by decide +kernel)) rfl
theorem tq_1025 : (.methodLink "PullSawLaw" 17 ⟨"PullSawModel", "feed", "(I)I"⟩ : Cond) ∈ tb_G := tb_in (List.mem_of_getElem? (i := 1025) (by decide +kernel)) rfl
theorem tq_1026 : (.instanceMethod ⟨"PullSawModel", "feed", "(I)I"⟩ : Cond) ∈ tb_G := tb_in (List.mem_of_getElem? (i := 1026) (by decide +kernel)) rfl
theorem tq_1027 : (.selects "PullSawModel" ⟨"PullSawModel", "feed", "(I)I"⟩ ⟨"PullSawModel", "feed", "(I)I"⟩ : Cond) ∈ tb_G := tb_in (List.mem_of_getElem? (i := 1027) (by decide +kernel)) rfl
set_option maxRecDepth 100000 in
theorem tq_1028 : (.code ⟨"PullSawModel", "feed", "(I)I"⟩ prog_12_method_6_code 2 (some .int) : Cond) ∈ tb_G := tb_in (List.mem_of_getElem? (i := 1028) rfl) rfl
theorem tq_1029 : (.constantLong "PullSawModel" 66 (255 : Int64) : Cond) ∈ tb_G := tb_in (List.mem_of_getElem? (i := 1029) (by decide +kernel)) rfl
theorem tq_1030 : (.methodLink "PullSawModel" 68 ⟨"PullSawModel", "in", "(JJJ)Z"⟩ : Cond) ∈ tb_G := tb_in (List.mem_of_getElem? (i := 1030) (by decide +kernel)) rfl
theorem tq_1031 : (.static ⟨"PullSawModel", "in", "(JJJ)Z"⟩ : Cond) ∈ tb_G := tb_in (List.mem_of_getElem? (i := 1031) (by decide +kernel)) rfl
set_option maxRecDepth 100000 in
theorem tq_1032 : (.code ⟨"PullSawModel", "in", "(JJJ)Z"⟩ prog_12_method_3_code 6 (some .boolean) : Cond) ∈ tb_G := tb_in (List.mem_of_getElem? (i := 1032) rfl) rfl
theorem tq_1033 : (.constant "PullSawModel" 72 (-1000000002 : Int32) : Cond) ∈ tb_G := tb_in (List.mem_of_getElem? (i := 1033) (by decide +kernel)) rfl
theorem tq_1034 : (.constant "PullSawModel" 76 (-1000000004 : Int32) : Cond) ∈ tb_G := tb_in (List.mem_of_getElem? (i := 1034) (by decide +kernel)) rfl
theorem tq_1035 : (.methodLink "PullSawLaw" 22 ⟨"PullSawModel", "yard", "()I"⟩ : Cond) ∈ tb_G := tb_in (List.mem_of_getElem? (i := 1035) (by decide +kernel)) rfl
theorem tq_1036 : (.instanceMethod ⟨"PullSawModel", "yard", "()I"⟩ : Cond) ∈ tb_G := tb_in (List.mem_of_getElem? (i := 1036) (by decide +kernel)) rfl
theorem tq_1037 : (.selects "PullSawModel" ⟨"PullSawModel", "yard", "()I"⟩ ⟨"PullSawModel", "yard", "()I"⟩ : Cond) ∈ tb_G := tb_in (List.mem_of_getElem? (i := 1037) (by decide +kernel)) rfl
set_option maxRecDepth 100000 in
theorem tq_1038 : (.code ⟨"PullSawModel", "yard", "()I"⟩ prog_12_method_14_code 1 (some .int) : Cond) ∈ tb_G := tb_in (List.mem_of_getElem? (i := 1038) rfl) rfl
theorem tq_1039 : (.methodLink "PullSawModel" 83 ⟨"PullSawModel", "here", "()I"⟩ : Cond) ∈ tb_G := tb_in (List.mem_of_getElem? (i := 1039) (by decide +kernel)) rfl
theorem tq_1041 : (.instanceMethod ⟨"PullSawModel", "here", "()I"⟩ : Cond) ∈ tb_G := tb_in (List.mem_of_getElem? (i := 1041) (by decide +kernel)) rfl
set_option maxRecDepth 100000 in
theorem tq_1042 : (.code ⟨"PullSawModel", "here", "()I"⟩ prog_12_method_7_code 1 (some .int) : Cond) ∈ tb_G := tb_in (List.mem_of_getElem? (i := 1042) rfl) rfl
theorem tq_1043 : (.methodLink "PullSawModel" 138 ⟨"PullSawModel", "takeClause", "()V"⟩ : Cond) ∈ tb_G := tb_in (List.mem_of_getElem? (i := 1043) (by decide +kernel)) rfl
theorem tq_1045 : (.instanceMethod ⟨"PullSawModel", "takeClause", "()V"⟩ : Cond) ∈ tb_G := tb_in (List.mem_of_getElem? (i := 1045) (by decide +kernel)) rfl
set_option maxRecDepth 100000 in
theorem tq_1046 : (.code ⟨"PullSawModel", "takeClause", "()V"⟩ prog_12_method_13_code 5 none : Cond) ∈ tb_G := tb_in (List.mem_of_getElem? (i := 1046) rfl) rfl
theorem tq_1047 : (.methodLink "PullSawModel" 109 ⟨"PullSawModel", "wordOf", "(I)I"⟩ : Cond) ∈ tb_G := tb_in (List.mem_of_getElem? (i := 1047) (by decide +kernel)) rfl
theorem tq_1048 : (.static ⟨"PullSawModel", "wordOf", "(I)I"⟩ : Cond) ∈ tb_G := tb_in (List.mem_of_getElem? (i := 1048) (by decide +kernel)) rfl
set_option maxRecDepth 100000 in
theorem tq_1049 : (.code ⟨"PullSawModel", "wordOf", "(I)I"⟩ prog_12_method_12_code 1 (some .int) : Cond) ∈ tb_G := tb_in (List.mem_of_getElem? (i := 1049) rfl) rfl
theorem tq_1050 : (.methodLink "PullSawModel" 116 ⟨"PullSawModel", "has", "(II)Z"⟩ : Cond) ∈ tb_G := tb_in (List.mem_of_getElem? (i := 1050) (by decide +kernel)) rfl
theorem tq_1051 : (.static ⟨"PullSawModel", "has", "(II)Z"⟩ : Cond) ∈ tb_G := tb_in (List.mem_of_getElem? (i := 1051) (by decide +kernel)) rfl
set_option maxRecDepth 100000 in
theorem tq_1052 : (.code ⟨"PullSawModel", "has", "(II)Z"⟩ prog_12_method_5_code 2 (some .boolean) : Cond) ∈ tb_G := tb_in (List.mem_of_getElem? (i := 1052) rfl) rfl
theorem tq_1053 : (.methodLink "PullSawModel" 94 ⟨"PullSawModel", "want", "(ZII)Z"⟩ : Cond) ∈ tb_G := tb_in (List.mem_of_getElem? (i := 1053) (by decide +kernel)) rfl
theorem tq_1055 : (.instanceMethod ⟨"PullSawModel", "want", "(ZII)Z"⟩ : Cond) ∈ tb_G := tb_in (List.mem_of_getElem? (i := 1055) (by decide +kernel)) rfl
set_option maxRecDepth 100000 in
theorem tq_1056 : (.code ⟨"PullSawModel", "want", "(ZII)Z"⟩ prog_12_method_8_code 4 (some .boolean) : Cond) ∈ tb_G := tb_in (List.mem_of_getElem? (i := 1056) rfl) rfl
theorem tq_1057 : (.methodLink "PullSawModel" 120 ⟨"PullSawModel", "takeLog", "()V"⟩ : Cond) ∈ tb_G := tb_in (List.mem_of_getElem? (i := 1057) (by decide +kernel)) rfl
theorem tq_1059 : (.instanceMethod ⟨"PullSawModel", "takeLog", "()V"⟩ : Cond) ∈ tb_G := tb_in (List.mem_of_getElem? (i := 1059) (by decide +kernel)) rfl
set_option maxRecDepth 100000 in
theorem tq_1060 : (.code ⟨"PullSawModel", "takeLog", "()V"⟩ prog_12_method_10_code 2 none : Cond) ∈ tb_G := tb_in (List.mem_of_getElem? (i := 1060) rfl) rfl
theorem tq_1061 : (.methodLink "PullSawModel" 102 ⟨"PullSawModel", "takeNumber", "(II)I"⟩ : Cond) ∈ tb_G := tb_in (List.mem_of_getElem? (i := 1061) (by decide +kernel)) rfl
theorem tq_1063 : (.instanceMethod ⟨"PullSawModel", "takeNumber", "(II)I"⟩ : Cond) ∈ tb_G := tb_in (List.mem_of_getElem? (i := 1063) (by decide +kernel)) rfl
set_option maxRecDepth 100000 in
theorem tq_1064 : (.code ⟨"PullSawModel", "takeNumber", "(II)I"⟩ prog_12_method_9_code 6 (some .int) : Cond) ∈ tb_G := tb_in (List.mem_of_getElem? (i := 1064) rfl) rfl
theorem tq_1065 : (.constantLong "PullSawModel" 90 (48 : Int64) : Cond) ∈ tb_G := tb_in (List.mem_of_getElem? (i := 1065) (by decide +kernel)) rfl
theorem tq_1066 : (.constantLong "PullSawModel" 92 (57 : Int64) : Cond) ∈ tb_G := tb_in (List.mem_of_getElem? (i := 1066) (by decide +kernel)) rfl
theorem tq_1067 : (.constant "PullSawModel" 98 (99999 : Int32) : Cond) ∈ tb_G := tb_in (List.mem_of_getElem? (i := 1067) (by decide +kernel)) rfl
theorem tq_1068 : (.methodLink "PullSawModel" 135 ⟨"PullSawModel", "takePerson", "()V"⟩ : Cond) ∈ tb_G := tb_in (List.mem_of_getElem? (i := 1068) (by decide +kernel)) rfl
theorem tq_1070 : (.instanceMethod ⟨"PullSawModel", "takePerson", "()V"⟩ : Cond) ∈ tb_G := tb_in (List.mem_of_getElem? (i := 1070) (by decide +kernel)) rfl
set_option maxRecDepth 100000 in
theorem tq_1071 : (.code ⟨"PullSawModel", "takePerson", "()V"⟩ prog_12_method_11_code 2 none : Cond) ∈ tb_G := tb_in (List.mem_of_getElem? (i := 1071) rfl) rfl
theorem tq_1072 : (.methodLink "PullSawModel" 141 ⟨"PullSawModel", "take", "()V"⟩ : Cond) ∈ tb_G := tb_in (List.mem_of_getElem? (i := 1072) (by decide +kernel)) rfl
theorem tq_1074 : (.instanceMethod ⟨"PullSawModel", "take", "()V"⟩ : Cond) ∈ tb_G := tb_in (List.mem_of_getElem? (i := 1074) (by decide +kernel)) rfl
set_option maxRecDepth 100000 in
theorem tq_1075 : (.code ⟨"PullSawModel", "take", "()V"⟩ prog_12_method_15_code 2 none : Cond) ∈ tb_G := tb_in (List.mem_of_getElem? (i := 1075) rfl) rfl
theorem tq_1076 : (.methodLink "PullSawModel" 153 ⟨"PullSawModel", "begin", "(III)V"⟩ : Cond) ∈ tb_G := tb_in (List.mem_of_getElem? (i := 1076) (by decide +kernel)) rfl
theorem tq_1078 : (.instanceMethod ⟨"PullSawModel", "begin", "(III)V"⟩ : Cond) ∈ tb_G := tb_in (List.mem_of_getElem? (i := 1078) (by decide +kernel)) rfl
set_option maxRecDepth 100000 in
theorem tq_1079 : (.code ⟨"PullSawModel", "begin", "(III)V"⟩ prog_12_method_16_code 5 none : Cond) ∈ tb_G := tb_in (List.mem_of_getElem? (i := 1079) rfl) rfl
theorem tq_1080 : (.methodLink "PullSawLaw" 26 ⟨"PullSawModel", "fault", "()I"⟩ : Cond) ∈ tb_G := tb_in (List.mem_of_getElem? (i := 1080) (by decide +kernel)) rfl
theorem tq_1081 : (.instanceMethod ⟨"PullSawModel", "fault", "()I"⟩ : Cond) ∈ tb_G := tb_in (List.mem_of_getElem? (i := 1081) (by decide +kernel)) rfl
theorem tq_1082 : (.selects "PullSawModel" ⟨"PullSawModel", "fault", "()I"⟩ ⟨"PullSawModel", "fault", "()I"⟩ : Cond) ∈ tb_G := tb_in (List.mem_of_getElem? (i := 1082) (by decide +kernel)) rfl
set_option maxRecDepth 100000 in
theorem tq_1083 : (.code ⟨"PullSawModel", "fault", "()I"⟩ prog_12_method_17_code 1 (some .int) : Cond) ∈ tb_G := tb_in (List.mem_of_getElem? (i := 1083) rfl) rfl
theorem tq_1084 : (.methodLink "PullSawLaw" 30 ⟨"PullSawModel", "told", "(I)I"⟩ : Cond) ∈ tb_G := tb_in (List.mem_of_getElem? (i := 1084) (by decide +kernel)) rfl
theorem tq_1085 : (.instanceMethod ⟨"PullSawModel", "told", "(I)I"⟩ : Cond) ∈ tb_G := tb_in (List.mem_of_getElem? (i := 1085) (by decide +kernel)) rfl
theorem tq_1086 : (.selects "PullSawModel" ⟨"PullSawModel", "told", "(I)I"⟩ ⟨"PullSawModel", "told", "(I)I"⟩ : Cond) ∈ tb_G := tb_in (List.mem_of_getElem? (i := 1086) (by decide +kernel)) rfl
set_option maxRecDepth 100000 in
theorem tq_1087 : (.code ⟨"PullSawModel", "told", "(I)I"⟩ prog_12_method_21_code 2 (some .int) : Cond) ∈ tb_G := tb_in (List.mem_of_getElem? (i := 1087) rfl) rfl
theorem tq_1088 : (.methodLink "PullSawModel" 166 ⟨"PullSawModel", "isThrough", "(I)Z"⟩ : Cond) ∈ tb_G := tb_in (List.mem_of_getElem? (i := 1088) (by decide +kernel)) rfl
theorem tq_1090 : (.instanceMethod ⟨"PullSawModel", "isThrough", "(I)Z"⟩ : Cond) ∈ tb_G := tb_in (List.mem_of_getElem? (i := 1090) (by decide +kernel)) rfl
set_option maxRecDepth 100000 in
theorem tq_1091 : (.code ⟨"PullSawModel", "isThrough", "(I)Z"⟩ prog_12_method_19_code 2 (some .boolean) : Cond) ∈ tb_G := tb_in (List.mem_of_getElem? (i := 1091) rfl) rfl
theorem tq_1092 : (.methodLink "PullSawModel" 170 ⟨"PullSawModel", "one", "(Z)I"⟩ : Cond) ∈ tb_G := tb_in (List.mem_of_getElem? (i := 1092) (by decide +kernel)) rfl
theorem tq_1093 : (.static ⟨"PullSawModel", "one", "(Z)I"⟩ : Cond) ∈ tb_G := tb_in (List.mem_of_getElem? (i := 1093) (by decide +kernel)) rfl
set_option maxRecDepth 100000 in
theorem tq_1094 : (.code ⟨"PullSawModel", "one", "(Z)I"⟩ prog_12_method_4_code 1 (some .int) : Cond) ∈ tb_G := tb_in (List.mem_of_getElem? (i := 1094) rfl) rfl
theorem tq_1095 : (.methodLink "PullSawLaw" 34 ⟨"PullSawModel", "wood", "(I)I"⟩ : Cond) ∈ tb_G := tb_in (List.mem_of_getElem? (i := 1095) (by decide +kernel)) rfl
theorem tq_1096 : (.instanceMethod ⟨"PullSawModel", "wood", "(I)I"⟩ : Cond) ∈ tb_G := tb_in (List.mem_of_getElem? (i := 1096) (by decide +kernel)) rfl
theorem tq_1097 : (.selects "PullSawModel" ⟨"PullSawModel", "wood", "(I)I"⟩ ⟨"PullSawModel", "wood", "(I)I"⟩ : Cond) ∈ tb_G := tb_in (List.mem_of_getElem? (i := 1097) (by decide +kernel)) rfl
set_option maxRecDepth 100000 in
theorem tq_1098 : (.code ⟨"PullSawModel", "wood", "(I)I"⟩ prog_12_method_22_code 2 (some .int) : Cond) ∈ tb_G := tb_in (List.mem_of_getElem? (i := 1098) rfl) rfl
theorem tq_1099 : (.constant "PullSawModel" 174 (-1000000001 : Int32) : Cond) ∈ tb_G := tb_in (List.mem_of_getElem? (i := 1099) (by decide +kernel)) rfl
theorem tq_1100 : (.methodLink "PullSawLaw" 39 ⟨"PullSawModel", "person", "(II)I"⟩ : Cond) ∈ tb_G := tb_in (List.mem_of_getElem? (i := 1100) (by decide +kernel)) rfl
theorem tq_1101 : (.instanceMethod ⟨"PullSawModel", "person", "(II)I"⟩ : Cond) ∈ tb_G := tb_in (List.mem_of_getElem? (i := 1101) (by decide +kernel)) rfl
theorem tq_1102 : (.selects "PullSawModel" ⟨"PullSawModel", "person", "(II)I"⟩ ⟨"PullSawModel", "person", "(II)I"⟩ : Cond) ∈ tb_G := tb_in (List.mem_of_getElem? (i := 1102) (by decide +kernel)) rfl
set_option maxRecDepth 100000 in
theorem tq_1103 : (.code ⟨"PullSawModel", "person", "(II)I"⟩ prog_12_method_23_code 3 (some .int) : Cond) ∈ tb_G := tb_in (List.mem_of_getElem? (i := 1103) rfl) rfl
theorem tq_1104 : (.methodLink "PullSawModel" 175 ⟨"PullSawModel", "isPerson", "(I)Z"⟩ : Cond) ∈ tb_G := tb_in (List.mem_of_getElem? (i := 1104) (by decide +kernel)) rfl
theorem tq_1106 : (.instanceMethod ⟨"PullSawModel", "isPerson", "(I)Z"⟩ : Cond) ∈ tb_G := tb_in (List.mem_of_getElem? (i := 1106) (by decide +kernel)) rfl
set_option maxRecDepth 100000 in
theorem tq_1107 : (.code ⟨"PullSawModel", "isPerson", "(I)Z"⟩ prog_12_method_18_code 2 (some .boolean) : Cond) ∈ tb_G := tb_in (List.mem_of_getElem? (i := 1107) rfl) rfl
theorem tq_1108 : (.methodLink "PullSawLaw" 43 ⟨"PullSawModel", "log", "(II)I"⟩ : Cond) ∈ tb_G := tb_in (List.mem_of_getElem? (i := 1108) (by decide +kernel)) rfl
theorem tq_1109 : (.instanceMethod ⟨"PullSawModel", "log", "(II)I"⟩ : Cond) ∈ tb_G := tb_in (List.mem_of_getElem? (i := 1109) (by decide +kernel)) rfl
theorem tq_1110 : (.selects "PullSawModel" ⟨"PullSawModel", "log", "(II)I"⟩ ⟨"PullSawModel", "log", "(II)I"⟩ : Cond) ∈ tb_G := tb_in (List.mem_of_getElem? (i := 1110) (by decide +kernel)) rfl
set_option maxRecDepth 100000 in
theorem tq_1111 : (.code ⟨"PullSawModel", "log", "(II)I"⟩ prog_12_method_31_code 3 (some .int) : Cond) ∈ tb_G := tb_in (List.mem_of_getElem? (i := 1111) rfl) rfl
theorem tq_1112 : (.constant "PullSawModel" 194 (-1000000003 : Int32) : Cond) ∈ tb_G := tb_in (List.mem_of_getElem? (i := 1112) (by decide +kernel)) rfl
theorem tq_1113 : (.methodLink "PullSawLaw" 47 ⟨"PullSawModel", "stroke", "(I)I"⟩ : Cond) ∈ tb_G := tb_in (List.mem_of_getElem? (i := 1113) (by decide +kernel)) rfl
theorem tq_1114 : (.instanceMethod ⟨"PullSawModel", "stroke", "(I)I"⟩ : Cond) ∈ tb_G := tb_in (List.mem_of_getElem? (i := 1114) (by decide +kernel)) rfl
theorem tq_1115 : (.selects "PullSawModel" ⟨"PullSawModel", "stroke", "(I)I"⟩ ⟨"PullSawModel", "stroke", "(I)I"⟩ : Cond) ∈ tb_G := tb_in (List.mem_of_getElem? (i := 1115) (by decide +kernel)) rfl
set_option maxRecDepth 100000 in
theorem tq_1116 : (.code ⟨"PullSawModel", "stroke", "(I)I"⟩ prog_12_method_32_code 4 (some .int) : Cond) ∈ tb_G := tb_in (List.mem_of_getElem? (i := 1116) rfl) rfl
theorem tq_1117 : (.constantLong "PullSawModel" 195 (99 : Int64) : Cond) ∈ tb_G := tb_in (List.mem_of_getElem? (i := 1117) (by decide +kernel)) rfl
theorem tq_1118 : (.methodLink "PullSawModel" 197 ⟨"PullSawModel", "isPair", "()Z"⟩ : Cond) ∈ tb_G := tb_in (List.mem_of_getElem? (i := 1118) (by decide +kernel)) rfl
theorem tq_1120 : (.instanceMethod ⟨"PullSawModel", "isPair", "()Z"⟩ : Cond) ∈ tb_G := tb_in (List.mem_of_getElem? (i := 1120) (by decide +kernel)) rfl
set_option maxRecDepth 100000 in
theorem tq_1121 : (.code ⟨"PullSawModel", "isPair", "()Z"⟩ prog_12_method_20_code 1 (some .boolean) : Cond) ∈ tb_G := tb_in (List.mem_of_getElem? (i := 1121) rfl) rfl
theorem tq_1122 : (.methodLink "PullSawModel" 201 ⟨"PullSawModel", "remember", "()V"⟩ : Cond) ∈ tb_G := tb_in (List.mem_of_getElem? (i := 1122) (by decide +kernel)) rfl
theorem tq_1124 : (.instanceMethod ⟨"PullSawModel", "remember", "()V"⟩ : Cond) ∈ tb_G := tb_in (List.mem_of_getElem? (i := 1124) (by decide +kernel)) rfl
set_option maxRecDepth 100000 in
theorem tq_1125 : (.code ⟨"PullSawModel", "remember", "()V"⟩ prog_12_method_30_code 2 none : Cond) ∈ tb_G := tb_in (List.mem_of_getElem? (i := 1125) rfl) rfl
theorem tq_1126 : (.methodLink "PullSawModel" 191 ⟨"PullSawModel", "copy", "(II)V"⟩ : Cond) ∈ tb_G := tb_in (List.mem_of_getElem? (i := 1126) (by decide +kernel)) rfl
theorem tq_1128 : (.instanceMethod ⟨"PullSawModel", "copy", "(II)V"⟩ : Cond) ∈ tb_G := tb_in (List.mem_of_getElem? (i := 1128) (by decide +kernel)) rfl
set_option maxRecDepth 100000 in
theorem tq_1129 : (.code ⟨"PullSawModel", "copy", "(II)V"⟩ prog_12_method_29_code 4 none : Cond) ∈ tb_G := tb_in (List.mem_of_getElem? (i := 1129) rfl) rfl
theorem tq_1130 : (.methodLink "PullSawModel" 204 ⟨"PullSawModel", "pull", "(I)I"⟩ : Cond) ∈ tb_G := tb_in (List.mem_of_getElem? (i := 1130) (by decide +kernel)) rfl
theorem tq_1132 : (.instanceMethod ⟨"PullSawModel", "pull", "(I)I"⟩ : Cond) ∈ tb_G := tb_in (List.mem_of_getElem? (i := 1132) (by decide +kernel)) rfl
set_option maxRecDepth 100000 in
theorem tq_1133 : (.code ⟨"PullSawModel", "pull", "(I)I"⟩ prog_12_method_27_code 6 (some .int) : Cond) ∈ tb_G := tb_in (List.mem_of_getElem? (i := 1133) rfl) rfl
theorem tq_1134 : (.methodLink "PullSawModel" 184 ⟨"PullSawModel", "pullOf", "(III)I"⟩ : Cond) ∈ tb_G := tb_in (List.mem_of_getElem? (i := 1134) (by decide +kernel)) rfl
theorem tq_1136 : (.instanceMethod ⟨"PullSawModel", "pullOf", "(III)I"⟩ : Cond) ∈ tb_G := tb_in (List.mem_of_getElem? (i := 1136) (by decide +kernel)) rfl
set_option maxRecDepth 100000 in
theorem tq_1137 : (.code ⟨"PullSawModel", "pullOf", "(III)I"⟩ prog_12_method_25_code 7 (some .int) : Cond) ∈ tb_G := tb_in (List.mem_of_getElem? (i := 1137) rfl) rfl
theorem tq_1138 : (.methodLink "PullSawModel" 178 ⟨"PullSawModel", "tire", "(II)V"⟩ : Cond) ∈ tb_G := tb_in (List.mem_of_getElem? (i := 1138) (by decide +kernel)) rfl
theorem tq_1140 : (.instanceMethod ⟨"PullSawModel", "tire", "(II)V"⟩ : Cond) ∈ tb_G := tb_in (List.mem_of_getElem? (i := 1140) (by decide +kernel)) rfl
set_option maxRecDepth 100000 in
theorem tq_1141 : (.code ⟨"PullSawModel", "tire", "(II)V"⟩ prog_12_method_24_code 4 none : Cond) ∈ tb_G := tb_in (List.mem_of_getElem? (i := 1141) rfl) rfl
theorem tq_1142 : (.methodLink "PullSawModel" 188 ⟨"PullSawModel", "feel", "(III)V"⟩ : Cond) ∈ tb_G := tb_in (List.mem_of_getElem? (i := 1142) (by decide +kernel)) rfl
theorem tq_1144 : (.instanceMethod ⟨"PullSawModel", "feel", "(III)V"⟩ : Cond) ∈ tb_G := tb_in (List.mem_of_getElem? (i := 1144) (by decide +kernel)) rfl
set_option maxRecDepth 100000 in
theorem tq_1145 : (.code ⟨"PullSawModel", "feel", "(III)V"⟩ prog_12_method_26_code 6 none : Cond) ∈ tb_G := tb_in (List.mem_of_getElem? (i := 1145) rfl) rfl
theorem tq_1146 : (.constantLong "PullSawModel" 182 (4 : Int64) : Cond) ∈ tb_G := tb_in (List.mem_of_getElem? (i := 1146) (by decide +kernel)) rfl
theorem tq_1147 : (.methodLink "PullSawLaw" 51 ⟨"PullSawModel", "rest", "(I)I"⟩ : Cond) ∈ tb_G := tb_in (List.mem_of_getElem? (i := 1147) (by decide +kernel)) rfl
theorem tq_1148 : (.instanceMethod ⟨"PullSawModel", "rest", "(I)I"⟩ : Cond) ∈ tb_G := tb_in (List.mem_of_getElem? (i := 1148) (by decide +kernel)) rfl
theorem tq_1149 : (.selects "PullSawModel" ⟨"PullSawModel", "rest", "(I)I"⟩ ⟨"PullSawModel", "rest", "(I)I"⟩ : Cond) ∈ tb_G := tb_in (List.mem_of_getElem? (i := 1149) (by decide +kernel)) rfl
set_option maxRecDepth 100000 in
theorem tq_1150 : (.code ⟨"PullSawModel", "rest", "(I)I"⟩ prog_12_method_33_code 2 (some .int) : Cond) ∈ tb_G := tb_in (List.mem_of_getElem? (i := 1150) rfl) rfl
theorem tq_1151 : (.methodLink "PullSawModel" 207 ⟨"PullSawModel", "relax", "(II)V"⟩ : Cond) ∈ tb_G := tb_in (List.mem_of_getElem? (i := 1151) (by decide +kernel)) rfl
theorem tq_1153 : (.instanceMethod ⟨"PullSawModel", "relax", "(II)V"⟩ : Cond) ∈ tb_G := tb_in (List.mem_of_getElem? (i := 1153) (by decide +kernel)) rfl
set_option maxRecDepth 100000 in
theorem tq_1154 : (.code ⟨"PullSawModel", "relax", "(II)V"⟩ prog_12_method_28_code 3 none : Cond) ∈ tb_G := tb_in (List.mem_of_getElem? (i := 1154) rfl) rfl
theorem tq_1155 : (.methodLink "PullSawLaw" 55 ⟨"PullSawModel", "sides", "()I"⟩ : Cond) ∈ tb_G := tb_in (List.mem_of_getElem? (i := 1155) (by decide +kernel)) rfl
theorem tq_1156 : (.instanceMethod ⟨"PullSawModel", "sides", "()I"⟩ : Cond) ∈ tb_G := tb_in (List.mem_of_getElem? (i := 1156) (by decide +kernel)) rfl
theorem tq_1157 : (.selects "PullSawModel" ⟨"PullSawModel", "sides", "()I"⟩ ⟨"PullSawModel", "sides", "()I"⟩ : Cond) ∈ tb_G := tb_in (List.mem_of_getElem? (i := 1157) (by decide +kernel)) rfl
set_option maxRecDepth 100000 in
theorem tq_1158 : (.code ⟨"PullSawModel", "sides", "()I"⟩ prog_12_method_34_code 2 (some .int) : Cond) ∈ tb_G := tb_in (List.mem_of_getElem? (i := 1158) rfl) rfl
theorem tq_1159 : (.methodLink "PullSawLaw" 59 ⟨"PullSawModel", "oil", "()I"⟩ : Cond) ∈ tb_G := tb_in (List.mem_of_getElem? (i := 1159) (by decide +kernel)) rfl
theorem tq_1160 : (.instanceMethod ⟨"PullSawModel", "oil", "()I"⟩ : Cond) ∈ tb_G := tb_in (List.mem_of_getElem? (i := 1160) (by decide +kernel)) rfl
theorem tq_1161 : (.selects "PullSawModel" ⟨"PullSawModel", "oil", "()I"⟩ ⟨"PullSawModel", "oil", "()I"⟩ : Cond) ∈ tb_G := tb_in (List.mem_of_getElem? (i := 1161) (by decide +kernel)) rfl
set_option maxRecDepth 100000 in
theorem tq_1162 : (.code ⟨"PullSawModel", "oil", "()I"⟩ prog_12_method_35_code 2 (some .int) : Cond) ∈ tb_G := tb_in (List.mem_of_getElem? (i := 1162) rfl) rfl
theorem tq_1163 : (.methodLink "PullSawLaw" 63 ⟨"PullSawModel", "wedge", "()I"⟩ : Cond) ∈ tb_G := tb_in (List.mem_of_getElem? (i := 1163) (by decide +kernel)) rfl
theorem tq_1164 : (.instanceMethod ⟨"PullSawModel", "wedge", "()I"⟩ : Cond) ∈ tb_G := tb_in (List.mem_of_getElem? (i := 1164) (by decide +kernel)) rfl
theorem tq_1165 : (.selects "PullSawModel" ⟨"PullSawModel", "wedge", "()I"⟩ ⟨"PullSawModel", "wedge", "()I"⟩ : Cond) ∈ tb_G := tb_in (List.mem_of_getElem? (i := 1165) (by decide +kernel)) rfl
set_option maxRecDepth 100000 in
theorem tq_1166 : (.code ⟨"PullSawModel", "wedge", "()I"⟩ prog_12_method_36_code 1 (some .int) : Cond) ∈ tb_G := tb_in (List.mem_of_getElem? (i := 1166) rfl) rfl
theorem tq_1167 : (.methodLink "PullSawLaw" 67 ⟨"PullSawModel", "file", "()I"⟩ : Cond) ∈ tb_G := tb_in (List.mem_of_getElem? (i := 1167) (by decide +kernel)) rfl
theorem tq_1168 : (.instanceMethod ⟨"PullSawModel", "file", "()I"⟩ : Cond) ∈ tb_G := tb_in (List.mem_of_getElem? (i := 1168) (by decide +kernel)) rfl
theorem tq_1169 : (.selects "PullSawModel" ⟨"PullSawModel", "file", "()I"⟩ ⟨"PullSawModel", "file", "()I"⟩ : Cond) ∈ tb_G := tb_in (List.mem_of_getElem? (i := 1169) (by decide +kernel)) rfl
set_option maxRecDepth 100000 in
theorem tq_1170 : (.code ⟨"PullSawModel", "file", "()I"⟩ prog_12_method_37_code 1 (some .int) : Cond) ∈ tb_G := tb_in (List.mem_of_getElem? (i := 1170) rfl) rfl
theorem tq_1171 : (.methodLink "PullSawLaw" 71 ⟨"PullSawModel", "wish", "(II)I"⟩ : Cond) ∈ tb_G := tb_in (List.mem_of_getElem? (i := 1171) (by decide +kernel)) rfl
theorem tq_1172 : (.instanceMethod ⟨"PullSawModel", "wish", "(II)I"⟩ : Cond) ∈ tb_G := tb_in (List.mem_of_getElem? (i := 1172) (by decide +kernel)) rfl
theorem tq_1173 : (.selects "PullSawModel" ⟨"PullSawModel", "wish", "(II)I"⟩ ⟨"PullSawModel", "wish", "(II)I"⟩ : Cond) ∈ tb_G := tb_in (List.mem_of_getElem? (i := 1173) (by decide +kernel)) rfl
set_option maxRecDepth 100000 in
theorem tq_1174 : (.code ⟨"PullSawModel", "wish", "(II)I"⟩ prog_12_method_39_code 3 (some .int) : Cond) ∈ tb_G := tb_in (List.mem_of_getElem? (i := 1174) rfl) rfl
theorem tq_1175 : (.constantLong "PullSawModel" 210 (20 : Int64) : Cond) ∈ tb_G := tb_in (List.mem_of_getElem? (i := 1175) (by decide +kernel)) rfl
theorem tq_1176 : (.methodLink "PullSawModel" 212 ⟨"PullSawModel", "become", "(II)I"⟩ : Cond) ∈ tb_G := tb_in (List.mem_of_getElem? (i := 1176) (by decide +kernel)) rfl
theorem tq_1178 : (.instanceMethod ⟨"PullSawModel", "become", "(II)I"⟩ : Cond) ∈ tb_G := tb_in (List.mem_of_getElem? (i := 1178) (by decide +kernel)) rfl
set_option maxRecDepth 100000 in
theorem tq_1179 : (.code ⟨"PullSawModel", "become", "(II)I"⟩ prog_12_method_38_code 4 (some .int) : Cond) ∈ tb_G := tb_in (List.mem_of_getElem? (i := 1179) rfl) rfl
theorem tq_1180 : (.methodLink "PullSawLaw" 75 ⟨"PullSawModel", "habit", "(II)I"⟩ : Cond) ∈ tb_G := tb_in (List.mem_of_getElem? (i := 1180) (by decide +kernel)) rfl
theorem tq_1181 : (.instanceMethod ⟨"PullSawModel", "habit", "(II)I"⟩ : Cond) ∈ tb_G := tb_in (List.mem_of_getElem? (i := 1181) (by decide +kernel)) rfl
theorem tq_1182 : (.selects "PullSawModel" ⟨"PullSawModel", "habit", "(II)I"⟩ ⟨"PullSawModel", "habit", "(II)I"⟩ : Cond) ∈ tb_G := tb_in (List.mem_of_getElem? (i := 1182) (by decide +kernel)) rfl
set_option maxRecDepth 100000 in
theorem tq_1183 : (.code ⟨"PullSawModel", "habit", "(II)I"⟩ prog_12_method_40_code 3 (some .int) : Cond) ∈ tb_G := tb_in (List.mem_of_getElem? (i := 1183) rfl) rfl
theorem tq_1184 : (.constantLong "PullSawModel" 215 (9 : Int64) : Cond) ∈ tb_G := tb_in (List.mem_of_getElem? (i := 1184) (by decide +kernel)) rfl
theorem tq_1185 : (.methodLink "PullSawLaw" 79 ⟨"PullSawModel", "drift", "(I)I"⟩ : Cond) ∈ tb_G := tb_in (List.mem_of_getElem? (i := 1185) (by decide +kernel)) rfl
theorem tq_1186 : (.instanceMethod ⟨"PullSawModel", "drift", "(I)I"⟩ : Cond) ∈ tb_G := tb_in (List.mem_of_getElem? (i := 1186) (by decide +kernel)) rfl
theorem tq_1187 : (.selects "PullSawModel" ⟨"PullSawModel", "drift", "(I)I"⟩ ⟨"PullSawModel", "drift", "(I)I"⟩ : Cond) ∈ tb_G := tb_in (List.mem_of_getElem? (i := 1187) (by decide +kernel)) rfl
set_option maxRecDepth 100000 in
theorem tq_1188 : (.code ⟨"PullSawModel", "drift", "(I)I"⟩ prog_12_method_42_code 5 (some .int) : Cond) ∈ tb_G := tb_in (List.mem_of_getElem? (i := 1188) rfl) rfl
theorem tq_1189 : (.methodLink "PullSawModel" 224 ⟨"PullSawModel", "draw", "(I)I"⟩ : Cond) ∈ tb_G := tb_in (List.mem_of_getElem? (i := 1189) (by decide +kernel)) rfl
theorem tq_1191 : (.instanceMethod ⟨"PullSawModel", "draw", "(I)I"⟩ : Cond) ∈ tb_G := tb_in (List.mem_of_getElem? (i := 1191) (by decide +kernel)) rfl
set_option maxRecDepth 100000 in
theorem tq_1192 : (.code ⟨"PullSawModel", "draw", "(I)I"⟩ prog_12_method_41_code 2 (some .int) : Cond) ∈ tb_G := tb_in (List.mem_of_getElem? (i := 1192) rfl) rfl
theorem tq_1193 : (.constantLong "PullSawModel" 217 (1103515245 : Int64) : Cond) ∈ tb_G := tb_in (List.mem_of_getElem? (i := 1193) (by decide +kernel)) rfl
theorem tq_1194 : (.constantLong "PullSawModel" 219 (12345 : Int64) : Cond) ∈ tb_G := tb_in (List.mem_of_getElem? (i := 1194) (by decide +kernel)) rfl
theorem tq_1195 : (.constantLong "PullSawModel" 221 (2147483648 : Int64) : Cond) ∈ tb_G := tb_in (List.mem_of_getElem? (i := 1195) (by decide +kernel)) rfl
theorem tq_1196 : (.constant "PullSawModel" 223 (65536 : Int32) : Cond) ∈ tb_G := tb_in (List.mem_of_getElem? (i := 1196) (by decide +kernel)) rfl
theorem tq_1197 : (.methodLink "PullSawLaw" 83 ⟨"PullSawModel", "undo", "(I)I"⟩ : Cond) ∈ tb_G := tb_in (List.mem_of_getElem? (i := 1197) (by decide +kernel)) rfl
theorem tq_1198 : (.instanceMethod ⟨"PullSawModel", "undo", "(I)I"⟩ : Cond) ∈ tb_G := tb_in (List.mem_of_getElem? (i := 1198) (by decide +kernel)) rfl
theorem tq_1199 : (.selects "PullSawModel" ⟨"PullSawModel", "undo", "(I)I"⟩ ⟨"PullSawModel", "undo", "(I)I"⟩ : Cond) ∈ tb_G := tb_in (List.mem_of_getElem? (i := 1199) (by decide +kernel)) rfl
set_option maxRecDepth 100000 in
theorem tq_1200 : (.code ⟨"PullSawModel", "undo", "(I)I"⟩ prog_12_method_43_code 3 (some .int) : Cond) ∈ tb_G := tb_in (List.mem_of_getElem? (i := 1200) rfl) rfl
theorem tq_1201 : (.constantLong "PullSawModel" 227 (30 : Int64) : Cond) ∈ tb_G := tb_in (List.mem_of_getElem? (i := 1201) (by decide +kernel)) rfl
theorem tq_1202 : (.methodLink "PullSawLaw" 87 ⟨"PullSawModel", "toGo", "()I"⟩ : Cond) ∈ tb_G := tb_in (List.mem_of_getElem? (i := 1202) (by decide +kernel)) rfl
theorem tq_1203 : (.instanceMethod ⟨"PullSawModel", "toGo", "()I"⟩ : Cond) ∈ tb_G := tb_in (List.mem_of_getElem? (i := 1203) (by decide +kernel)) rfl
theorem tq_1204 : (.selects "PullSawModel" ⟨"PullSawModel", "toGo", "()I"⟩ ⟨"PullSawModel", "toGo", "()I"⟩ : Cond) ∈ tb_G := tb_in (List.mem_of_getElem? (i := 1204) (by decide +kernel)) rfl
set_option maxRecDepth 100000 in
theorem tq_1205 : (.code ⟨"PullSawModel", "toGo", "()I"⟩ prog_12_method_46_code 2 (some .int) : Cond) ∈ tb_G := tb_in (List.mem_of_getElem? (i := 1205) rfl) rfl
theorem tq_1206 : (.methodLink "PullSawModel" 233 ⟨"PullSawModel", "goOnNow", "()I"⟩ : Cond) ∈ tb_G := tb_in (List.mem_of_getElem? (i := 1206) (by decide +kernel)) rfl
theorem tq_1208 : (.instanceMethod ⟨"PullSawModel", "goOnNow", "()I"⟩ : Cond) ∈ tb_G := tb_in (List.mem_of_getElem? (i := 1208) (by decide +kernel)) rfl
set_option maxRecDepth 100000 in
theorem tq_1209 : (.code ⟨"PullSawModel", "goOnNow", "()I"⟩ prog_12_method_45_code 1 (some .int) : Cond) ∈ tb_G := tb_in (List.mem_of_getElem? (i := 1209) rfl) rfl
theorem tq_1210 : (.methodLink "PullSawModel" 230 ⟨"PullSawModel", "goOn", "(I)I"⟩ : Cond) ∈ tb_G := tb_in (List.mem_of_getElem? (i := 1210) (by decide +kernel)) rfl
theorem tq_1212 : (.instanceMethod ⟨"PullSawModel", "goOn", "(I)I"⟩ : Cond) ∈ tb_G := tb_in (List.mem_of_getElem? (i := 1212) (by decide +kernel)) rfl
set_option maxRecDepth 100000 in
theorem tq_1213 : (.code ⟨"PullSawModel", "goOn", "(I)I"⟩ prog_12_method_44_code 4 (some .int) : Cond) ∈ tb_G := tb_in (List.mem_of_getElem? (i := 1213) rfl) rfl
theorem tq_1214 : (.constant "PullSawModel" 229 (99999999 : Int32) : Cond) ∈ tb_G := tb_in (List.mem_of_getElem? (i := 1214) (by decide +kernel)) rfl
theorem tq_1215 : (.methodLink "PullSawLaw" 91 ⟨"PullSawModel", "fresh", "(II)I"⟩ : Cond) ∈ tb_G := tb_in (List.mem_of_getElem? (i := 1215) (by decide +kernel)) rfl
theorem tq_1216 : (.instanceMethod ⟨"PullSawModel", "fresh", "(II)I"⟩ : Cond) ∈ tb_G := tb_in (List.mem_of_getElem? (i := 1216) (by decide +kernel)) rfl
theorem tq_1217 : (.selects "PullSawModel" ⟨"PullSawModel", "fresh", "(II)I"⟩ ⟨"PullSawModel", "fresh", "(II)I"⟩ : Cond) ∈ tb_G := tb_in (List.mem_of_getElem? (i := 1217) (by decide +kernel)) rfl
set_option maxRecDepth 100000 in
theorem tq_1218 : (.code ⟨"PullSawModel", "fresh", "(II)I"⟩ prog_12_method_50_code 4 (some .int) : Cond) ∈ tb_G := tb_in (List.mem_of_getElem? (i := 1218) rfl) rfl
theorem tq_1219 : (.methodLink "PullSawModel" 239 ⟨"PullSawModel", "refusedTwo", "(II)I"⟩ : Cond) ∈ tb_G := tb_in (List.mem_of_getElem? (i := 1219) (by decide +kernel)) rfl
theorem tq_1221 : (.instanceMethod ⟨"PullSawModel", "refusedTwo", "(II)I"⟩ : Cond) ∈ tb_G := tb_in (List.mem_of_getElem? (i := 1221) (by decide +kernel)) rfl
set_option maxRecDepth 100000 in
theorem tq_1222 : (.code ⟨"PullSawModel", "refusedTwo", "(II)I"⟩ prog_12_method_49_code 3 (some .int) : Cond) ∈ tb_G := tb_in (List.mem_of_getElem? (i := 1222) rfl) rfl
theorem tq_1223 : (.methodLink "PullSawModel" 242 ⟨"PullSawModel", "freshOf", "(II)I"⟩ : Cond) ∈ tb_G := tb_in (List.mem_of_getElem? (i := 1223) (by decide +kernel)) rfl
theorem tq_1225 : (.instanceMethod ⟨"PullSawModel", "freshOf", "(II)I"⟩ : Cond) ∈ tb_G := tb_in (List.mem_of_getElem? (i := 1225) (by decide +kernel)) rfl
set_option maxRecDepth 100000 in
theorem tq_1226 : (.code ⟨"PullSawModel", "freshOf", "(II)I"⟩ prog_12_method_48_code 3 (some .int) : Cond) ∈ tb_G := tb_in (List.mem_of_getElem? (i := 1226) rfl) rfl
theorem tq_1227 : (.methodLink "PullSawModel" 236 ⟨"PullSawModel", "beginFresh", "(II)V"⟩ : Cond) ∈ tb_G := tb_in (List.mem_of_getElem? (i := 1227) (by decide +kernel)) rfl
theorem tq_1229 : (.instanceMethod ⟨"PullSawModel", "beginFresh", "(II)V"⟩ : Cond) ∈ tb_G := tb_in (List.mem_of_getElem? (i := 1229) (by decide +kernel)) rfl
set_option maxRecDepth 100000 in
theorem tq_1230 : (.code ⟨"PullSawModel", "beginFresh", "(II)V"⟩ prog_12_method_47_code 3 none : Cond) ∈ tb_G := tb_in (List.mem_of_getElem? (i := 1230) rfl) rfl
theorem tq_1231 : (.methodLink "PullSawLaw" 96 ⟨"PullSawModel", "wishes", "(III)I"⟩ : Cond) ∈ tb_G := tb_in (List.mem_of_getElem? (i := 1231) (by decide +kernel)) rfl
theorem tq_1232 : (.instanceMethod ⟨"PullSawModel", "wishes", "(III)I"⟩ : Cond) ∈ tb_G := tb_in (List.mem_of_getElem? (i := 1232) (by decide +kernel)) rfl
theorem tq_1233 : (.selects "PullSawModel" ⟨"PullSawModel", "wishes", "(III)I"⟩ ⟨"PullSawModel", "wishes", "(III)I"⟩ : Cond) ∈ tb_G := tb_in (List.mem_of_getElem? (i := 1233) (by decide +kernel)) rfl
set_option maxRecDepth 100000 in
theorem tq_1234 : (.code ⟨"PullSawModel", "wishes", "(III)I"⟩ prog_12_method_51_code 8 (some .int) : Cond) ∈ tb_G := tb_in (List.mem_of_getElem? (i := 1234) rfl) rfl
theorem tq_1235 : (.constantLong "PullSawModel" 245 (2 : Int64) : Cond) ∈ tb_G := tb_in (List.mem_of_getElem? (i := 1235) (by decide +kernel)) rfl
theorem tq_1236 : (.methodLink "PullSawLaw" 100 ⟨"PullSawModel", "quarrel", "(II)I"⟩ : Cond) ∈ tb_G := tb_in (List.mem_of_getElem? (i := 1236) (by decide +kernel)) rfl
theorem tq_1237 : (.instanceMethod ⟨"PullSawModel", "quarrel", "(II)I"⟩ : Cond) ∈ tb_G := tb_in (List.mem_of_getElem? (i := 1237) (by decide +kernel)) rfl
theorem tq_1238 : (.selects "PullSawModel" ⟨"PullSawModel", "quarrel", "(II)I"⟩ ⟨"PullSawModel", "quarrel", "(II)I"⟩ : Cond) ∈ tb_G := tb_in (List.mem_of_getElem? (i := 1238) (by decide +kernel)) rfl
set_option maxRecDepth 100000 in
theorem tq_1239 : (.code ⟨"PullSawModel", "quarrel", "(II)I"⟩ prog_12_method_53_code 5 (some .int) : Cond) ∈ tb_G := tb_in (List.mem_of_getElem? (i := 1239) rfl) rfl
theorem tq_1240 : (.methodLink "PullSawModel" 247 ⟨"PullSawModel", "quarrels", "(I)Z"⟩ : Cond) ∈ tb_G := tb_in (List.mem_of_getElem? (i := 1240) (by decide +kernel)) rfl
theorem tq_1242 : (.instanceMethod ⟨"PullSawModel", "quarrels", "(I)Z"⟩ : Cond) ∈ tb_G := tb_in (List.mem_of_getElem? (i := 1242) (by decide +kernel)) rfl
set_option maxRecDepth 100000 in
theorem tq_1243 : (.code ⟨"PullSawModel", "quarrels", "(I)Z"⟩ prog_12_method_52_code 2 (some .boolean) : Cond) ∈ tb_G := tb_in (List.mem_of_getElem? (i := 1243) rfl) rfl
theorem tq_1244 : (.methodLink "PullSawLaw" 104 ⟨"PullSawModel", "withWhom", "(I)I"⟩ : Cond) ∈ tb_G := tb_in (List.mem_of_getElem? (i := 1244) (by decide +kernel)) rfl
theorem tq_1245 : (.instanceMethod ⟨"PullSawModel", "withWhom", "(I)I"⟩ : Cond) ∈ tb_G := tb_in (List.mem_of_getElem? (i := 1245) (by decide +kernel)) rfl
theorem tq_1246 : (.selects "PullSawModel" ⟨"PullSawModel", "withWhom", "(I)I"⟩ ⟨"PullSawModel", "withWhom", "(I)I"⟩ : Cond) ∈ tb_G := tb_in (List.mem_of_getElem? (i := 1246) (by decide +kernel)) rfl
set_option maxRecDepth 100000 in
theorem tq_1247 : (.code ⟨"PullSawModel", "withWhom", "(I)I"⟩ prog_12_method_54_code 9 (some .int) : Cond) ∈ tb_G := tb_in (List.mem_of_getElem? (i := 1247) rfl) rfl
theorem tq_1248 : (.methodLink "PullSawLaw" 108 ⟨"PullSawModel", "changes", "(III)I"⟩ : Cond) ∈ tb_G := tb_in (List.mem_of_getElem? (i := 1248) (by decide +kernel)) rfl
theorem tq_1249 : (.instanceMethod ⟨"PullSawModel", "changes", "(III)I"⟩ : Cond) ∈ tb_G := tb_in (List.mem_of_getElem? (i := 1249) (by decide +kernel)) rfl
theorem tq_1250 : (.selects "PullSawModel" ⟨"PullSawModel", "changes", "(III)I"⟩ ⟨"PullSawModel", "changes", "(III)I"⟩ : Cond) ∈ tb_G := tb_in (List.mem_of_getElem? (i := 1250) (by decide +kernel)) rfl
set_option maxRecDepth 100000 in
theorem tq_1251 : (.code ⟨"PullSawModel", "changes", "(III)I"⟩ prog_12_method_56_code 10 (some .int) : Cond) ∈ tb_G := tb_in (List.mem_of_getElem? (i := 1251) rfl) rfl
theorem tq_1252 : (.constantLong "PullSawModel" 250 (999 : Int64) : Cond) ∈ tb_G := tb_in (List.mem_of_getElem? (i := 1252) (by decide +kernel)) rfl
theorem tq_1253 : (.methodLink "PullSawModel" 252 ⟨"PullSawModel", "lay", "(III)V"⟩ : Cond) ∈ tb_G := tb_in (List.mem_of_getElem? (i := 1253) (by decide +kernel)) rfl
theorem tq_1255 : (.instanceMethod ⟨"PullSawModel", "lay", "(III)V"⟩ : Cond) ∈ tb_G := tb_in (List.mem_of_getElem? (i := 1255) (by decide +kernel)) rfl
set_option maxRecDepth 100000 in
theorem tq_1256 : (.code ⟨"PullSawModel", "lay", "(III)V"⟩ prog_12_method_55_code 5 none : Cond) ∈ tb_G := tb_in (List.mem_of_getElem? (i := 1256) rfl) rfl
theorem tq_1257 : (.methodLink "PullSawLaw" 112 ⟨"PullSawModel", "whenWedge", "(I)I"⟩ : Cond) ∈ tb_G := tb_in (List.mem_of_getElem? (i := 1257) (by decide +kernel)) rfl
theorem tq_1258 : (.instanceMethod ⟨"PullSawModel", "whenWedge", "(I)I"⟩ : Cond) ∈ tb_G := tb_in (List.mem_of_getElem? (i := 1258) (by decide +kernel)) rfl
theorem tq_1259 : (.selects "PullSawModel" ⟨"PullSawModel", "whenWedge", "(I)I"⟩ ⟨"PullSawModel", "whenWedge", "(I)I"⟩ : Cond) ∈ tb_G := tb_in (List.mem_of_getElem? (i := 1259) (by decide +kernel)) rfl
set_option maxRecDepth 100000 in
theorem tq_1260 : (.code ⟨"PullSawModel", "whenWedge", "(I)I"⟩ prog_12_method_57_code 8 (some .int) : Cond) ∈ tb_G := tb_in (List.mem_of_getElem? (i := 1260) rfl) rfl
theorem tq_1261 : (.methodLink "PullSawLaw" 116 ⟨"PullSawModel", "whenRest", "(II)I"⟩ : Cond) ∈ tb_G := tb_in (List.mem_of_getElem? (i := 1261) (by decide +kernel)) rfl
theorem tq_1262 : (.instanceMethod ⟨"PullSawModel", "whenRest", "(II)I"⟩ : Cond) ∈ tb_G := tb_in (List.mem_of_getElem? (i := 1262) (by decide +kernel)) rfl
theorem tq_1263 : (.selects "PullSawModel" ⟨"PullSawModel", "whenRest", "(II)I"⟩ ⟨"PullSawModel", "whenRest", "(II)I"⟩ : Cond) ∈ tb_G := tb_in (List.mem_of_getElem? (i := 1263) (by decide +kernel)) rfl
set_option maxRecDepth 100000 in
theorem tq_1264 : (.code ⟨"PullSawModel", "whenRest", "(II)I"⟩ prog_12_method_60_code 8 (some .int) : Cond) ∈ tb_G := tb_in (List.mem_of_getElem? (i := 1264) rfl) rfl
theorem tq_1265 : (.constantLong "PullSawModel" 255 (10 : Int64) : Cond) ∈ tb_G := tb_in (List.mem_of_getElem? (i := 1265) (by decide +kernel)) rfl
theorem tq_1266 : (.methodLink "PullSawModel" 257 ⟨"PullSawModel", "depthBy", "(II)I"⟩ : Cond) ∈ tb_G := tb_in (List.mem_of_getElem? (i := 1266) (by decide +kernel)) rfl
theorem tq_1268 : (.instanceMethod ⟨"PullSawModel", "depthBy", "(II)I"⟩ : Cond) ∈ tb_G := tb_in (List.mem_of_getElem? (i := 1268) (by decide +kernel)) rfl
set_option maxRecDepth 100000 in
theorem tq_1269 : (.code ⟨"PullSawModel", "depthBy", "(II)I"⟩ prog_12_method_58_code 5 (some .int) : Cond) ∈ tb_G := tb_in (List.mem_of_getElem? (i := 1269) rfl) rfl
theorem tq_1270 : (.methodLink "PullSawModel" 260 ⟨"PullSawModel", "ones", "(I)I"⟩ : Cond) ∈ tb_G := tb_in (List.mem_of_getElem? (i := 1270) (by decide +kernel)) rfl
theorem tq_1271 : (.static ⟨"PullSawModel", "ones", "(I)I"⟩ : Cond) ∈ tb_G := tb_in (List.mem_of_getElem? (i := 1271) (by decide +kernel)) rfl
set_option maxRecDepth 100000 in
theorem tq_1272 : (.code ⟨"PullSawModel", "ones", "(I)I"⟩ prog_12_method_59_code 3 (some .int) : Cond) ∈ tb_G := tb_in (List.mem_of_getElem? (i := 1272) rfl) rfl
theorem tq_1273 : (.methodLink "PullSawLaw" 120 ⟨"PullSawModel", "worthFile", "()I"⟩ : Cond) ∈ tb_G := tb_in (List.mem_of_getElem? (i := 1273) (by decide +kernel)) rfl
theorem tq_1274 : (.instanceMethod ⟨"PullSawModel", "worthFile", "()I"⟩ : Cond) ∈ tb_G := tb_in (List.mem_of_getElem? (i := 1274) (by decide +kernel)) rfl
theorem tq_1275 : (.selects "PullSawModel" ⟨"PullSawModel", "worthFile", "()I"⟩ ⟨"PullSawModel", "worthFile", "()I"⟩ : Cond) ∈ tb_G := tb_in (List.mem_of_getElem? (i := 1275) (by decide +kernel)) rfl
set_option maxRecDepth 100000 in
theorem tq_1276 : (.code ⟨"PullSawModel", "worthFile", "()I"⟩ prog_12_method_61_code 3 (some .int) : Cond) ∈ tb_G := tb_in (List.mem_of_getElem? (i := 1276) rfl) rfl
theorem tq_1277 : (.methodLink "PullSawLaw" 124 ⟨"PullSawModel", "see", "(I)I"⟩ : Cond) ∈ tb_G := tb_in (List.mem_of_getElem? (i := 1277) (by decide +kernel)) rfl
theorem tq_1278 : (.instanceMethod ⟨"PullSawModel", "see", "(I)I"⟩ : Cond) ∈ tb_G := tb_in (List.mem_of_getElem? (i := 1278) (by decide +kernel)) rfl
theorem tq_1279 : (.selects "PullSawModel" ⟨"PullSawModel", "see", "(I)I"⟩ ⟨"PullSawModel", "see", "(I)I"⟩ : Cond) ∈ tb_G := tb_in (List.mem_of_getElem? (i := 1279) (by decide +kernel)) rfl
set_option maxRecDepth 100000 in
theorem tq_1280 : (.code ⟨"PullSawModel", "see", "(I)I"⟩ prog_12_method_62_code 2 (some .int) : Cond) ∈ tb_G := tb_in (List.mem_of_getElem? (i := 1280) rfl) rfl
theorem tq_1281 : (.methodLink "PullSawLaw" 128 ⟨"PullSawModel", "habits", "(II)I"⟩ : Cond) ∈ tb_G := tb_in (List.mem_of_getElem? (i := 1281) (by decide +kernel)) rfl
theorem tq_1282 : (.instanceMethod ⟨"PullSawModel", "habits", "(II)I"⟩ : Cond) ∈ tb_G := tb_in (List.mem_of_getElem? (i := 1282) (by decide +kernel)) rfl
theorem tq_1283 : (.selects "PullSawModel" ⟨"PullSawModel", "habits", "(II)I"⟩ ⟨"PullSawModel", "habits", "(II)I"⟩ : Cond) ∈ tb_G := tb_in (List.mem_of_getElem? (i := 1283) (by decide +kernel)) rfl
set_option maxRecDepth 100000 in
theorem tq_1284 : (.code ⟨"PullSawModel", "habits", "(II)I"⟩ prog_12_method_64_code 5 (some .int) : Cond) ∈ tb_G := tb_in (List.mem_of_getElem? (i := 1284) rfl) rfl
theorem tq_1285 : (.methodLink "PullSawModel" 263 ⟨"PullSawModel", "isAsSeen", "()Z"⟩ : Cond) ∈ tb_G := tb_in (List.mem_of_getElem? (i := 1285) (by decide +kernel)) rfl
theorem tq_1287 : (.instanceMethod ⟨"PullSawModel", "isAsSeen", "()Z"⟩ : Cond) ∈ tb_G := tb_in (List.mem_of_getElem? (i := 1287) (by decide +kernel)) rfl
set_option maxRecDepth 100000 in
theorem tq_1288 : (.code ⟨"PullSawModel", "isAsSeen", "()Z"⟩ prog_12_method_63_code 3 (some .boolean) : Cond) ∈ tb_G := tb_in (List.mem_of_getElem? (i := 1288) rfl) rfl
theorem tq_1289 : (.methodLink "PullSawLaw" 132 ⟨"PullSawModel", "end", "(I)I"⟩ : Cond) ∈ tb_G := tb_in (List.mem_of_getElem? (i := 1289) (by decide +kernel)) rfl
theorem tq_1290 : (.instanceMethod ⟨"PullSawModel", "end", "(I)I"⟩ : Cond) ∈ tb_G := tb_in (List.mem_of_getElem? (i := 1290) (by decide +kernel)) rfl
theorem tq_1291 : (.selects "PullSawModel" ⟨"PullSawModel", "end", "(I)I"⟩ ⟨"PullSawModel", "end", "(I)I"⟩ : Cond) ∈ tb_G := tb_in (List.mem_of_getElem? (i := 1291) (by decide +kernel)) rfl
set_option maxRecDepth 100000 in
theorem tq_1292 : (.code ⟨"PullSawModel", "end", "(I)I"⟩ prog_12_method_65_code 5 (some .int) : Cond) ∈ tb_G := tb_in (List.mem_of_getElem? (i := 1292) rfl) rfl
theorem tq_1293 : (.methodLink "PullSawLaw" 136 ⟨"PullSawModel", "write", "(I)I"⟩ : Cond) ∈ tb_G := tb_in (List.mem_of_getElem? (i := 1293) (by decide +kernel)) rfl
theorem tq_1294 : (.instanceMethod ⟨"PullSawModel", "write", "(I)I"⟩ : Cond) ∈ tb_G := tb_in (List.mem_of_getElem? (i := 1294) (by decide +kernel)) rfl
theorem tq_1295 : (.selects "PullSawModel" ⟨"PullSawModel", "write", "(I)I"⟩ ⟨"PullSawModel", "write", "(I)I"⟩ : Cond) ∈ tb_G := tb_in (List.mem_of_getElem? (i := 1295) (by decide +kernel)) rfl
set_option maxRecDepth 100000 in
theorem tq_1296 : (.code ⟨"PullSawModel", "write", "(I)I"⟩ prog_12_method_66_code 2 (some .int) : Cond) ∈ tb_G := tb_in (List.mem_of_getElem? (i := 1296) rfl) rfl
theorem tq_1297 : (.methodLink "PullSawLaw" 140 ⟨"PullSawModel", "judge", "()I"⟩ : Cond) ∈ tb_G := tb_in (List.mem_of_getElem? (i := 1297) (by decide +kernel)) rfl
theorem tq_1298 : (.instanceMethod ⟨"PullSawModel", "judge", "()I"⟩ : Cond) ∈ tb_G := tb_in (List.mem_of_getElem? (i := 1298) (by decide +kernel)) rfl
theorem tq_1299 : (.selects "PullSawModel" ⟨"PullSawModel", "judge", "()I"⟩ ⟨"PullSawModel", "judge", "()I"⟩ : Cond) ∈ tb_G := tb_in (List.mem_of_getElem? (i := 1299) (by decide +kernel)) rfl
set_option maxRecDepth 100000 in
theorem tq_1300 : (.code ⟨"PullSawModel", "judge", "()I"⟩ prog_12_method_67_code 2 (some .int) : Cond) ∈ tb_G := tb_in (List.mem_of_getElem? (i := 1300) rfl) rfl
theorem tq_1301 : (.methodLink "PullSawLaw" 144 ⟨"PullSawModel", "tear", "()I"⟩ : Cond) ∈ tb_G := tb_in (List.mem_of_getElem? (i := 1301) (by decide +kernel)) rfl
theorem tq_1302 : (.instanceMethod ⟨"PullSawModel", "tear", "()I"⟩ : Cond) ∈ tb_G := tb_in (List.mem_of_getElem? (i := 1302) (by decide +kernel)) rfl
theorem tq_1303 : (.selects "PullSawModel" ⟨"PullSawModel", "tear", "()I"⟩ ⟨"PullSawModel", "tear", "()I"⟩ : Cond) ∈ tb_G := tb_in (List.mem_of_getElem? (i := 1303) (by decide +kernel)) rfl
set_option maxRecDepth 100000 in
theorem tq_1304 : (.code ⟨"PullSawModel", "tear", "()I"⟩ prog_12_method_68_code 2 (some .int) : Cond) ∈ tb_G := tb_in (List.mem_of_getElem? (i := 1304) rfl) rfl
theorem tq_1305 : (.methodLink "PullSawLaw" 148 ⟨"PullSawModel", "seed", "(I)I"⟩ : Cond) ∈ tb_G := tb_in (List.mem_of_getElem? (i := 1305) (by decide +kernel)) rfl
theorem tq_1306 : (.instanceMethod ⟨"PullSawModel", "seed", "(I)I"⟩ : Cond) ∈ tb_G := tb_in (List.mem_of_getElem? (i := 1306) (by decide +kernel)) rfl
theorem tq_1307 : (.selects "PullSawModel" ⟨"PullSawModel", "seed", "(I)I"⟩ ⟨"PullSawModel", "seed", "(I)I"⟩ : Cond) ∈ tb_G := tb_in (List.mem_of_getElem? (i := 1307) (by decide +kernel)) rfl
set_option maxRecDepth 100000 in
theorem tq_1308 : (.code ⟨"PullSawModel", "seed", "(I)I"⟩ prog_12_method_69_code 3 (some .int) : Cond) ∈ tb_G := tb_in (List.mem_of_getElem? (i := 1308) rfl) rfl
theorem tq_1309 : (.methodLink "PullSawLaw" 152 ⟨"PullSawModel", "keep", "(I)I"⟩ : Cond) ∈ tb_G := tb_in (List.mem_of_getElem? (i := 1309) (by decide +kernel)) rfl
theorem tq_1310 : (.instanceMethod ⟨"PullSawModel", "keep", "(I)I"⟩ : Cond) ∈ tb_G := tb_in (List.mem_of_getElem? (i := 1310) (by decide +kernel)) rfl
theorem tq_1311 : (.selects "PullSawModel" ⟨"PullSawModel", "keep", "(I)I"⟩ ⟨"PullSawModel", "keep", "(I)I"⟩ : Cond) ∈ tb_G := tb_in (List.mem_of_getElem? (i := 1311) (by decide +kernel)) rfl
set_option maxRecDepth 100000 in
theorem tq_1312 : (.code ⟨"PullSawModel", "keep", "(I)I"⟩ prog_12_method_70_code 2 (some .int) : Cond) ∈ tb_G := tb_in (List.mem_of_getElem? (i := 1312) rfl) rfl
theorem tq_1313 : (.methodLink "PullSawLaw" 156 ⟨"PullSawModel", "goBack", "(I)I"⟩ : Cond) ∈ tb_G := tb_in (List.mem_of_getElem? (i := 1313) (by decide +kernel)) rfl
theorem tq_1314 : (.instanceMethod ⟨"PullSawModel", "goBack", "(I)I"⟩ : Cond) ∈ tb_G := tb_in (List.mem_of_getElem? (i := 1314) (by decide +kernel)) rfl
theorem tq_1315 : (.selects "PullSawModel" ⟨"PullSawModel", "goBack", "(I)I"⟩ ⟨"PullSawModel", "goBack", "(I)I"⟩ : Cond) ∈ tb_G := tb_in (List.mem_of_getElem? (i := 1315) (by decide +kernel)) rfl
set_option maxRecDepth 100000 in
theorem tq_1316 : (.code ⟨"PullSawModel", "goBack", "(I)I"⟩ prog_12_method_71_code 2 (some .int) : Cond) ∈ tb_G := tb_in (List.mem_of_getElem? (i := 1316) rfl) rfl
end
section
/-! the memory: ints, references (0 none, r + 1 the cell r), kinds (0 none, class + 1, 21 int row, 22 boolean row, 23 row of references), lengths, how many cells -/
abbrev ps_M : Type := (Nat → Nat → Int32) × (Nat → Nat → Nat) × (Nat → Nat) × (Nat → Nat) × Nat
def ps_I (M : ps_M) : Nat → Nat → Int32 := M.1
def ps_R (M : ps_M) : Nat → Nat → Nat := M.2.1
def ps_K (M : ps_M) : Nat → Nat := M.2.2.1
def ps_L (M : ps_M) : Nat → Nat := M.2.2.2.1
def ps_N (M : ps_M) : Nat := M.2.2.2.2
def ps_uI (f : Nat → Nat → Int32) (a k : Nat) (v : Int32) : Nat → Nat → Int32 := fun x y => if x = a ∧ y = k then v else f x y
def ps_uR (f : Nat → Nat → Nat) (a k : Nat) (v : Nat) : Nat → Nat → Nat := fun x y => if x = a ∧ y = k then v else f x y
def ps_sI (M : ps_M) (a k : Nat) (v : Int32) : ps_M := (ps_uI (ps_I M) a k v, ps_R M, ps_K M, ps_L M, ps_N M)
def ps_sR (M : ps_M) (a k r : Nat) : ps_M := (ps_I M, ps_uR (ps_R M) a k r, ps_K M, ps_L M, ps_N M)
def ps_nw (M : ps_M) (kd len : Nat) : ps_M := (fun x y => if x = ps_N M then 0 else ps_I M x y, fun x y => if x = ps_N M then 0 else ps_R M x y, fun x => if x = ps_N M then kd else ps_K M x, fun x => if x = ps_N M then len else ps_L M x, ps_N M + 1)
def ps_nf (c : Nat) : Nat := [7, 3, 3, 7, 2, 10, 13, 12, 11, 35].getD c 0
def ps_rf (c k : Nat) : Bool := ([[5, 6], [0], [2], [0, 1], [0], [8, 9], [9, 10, 11, 12], [6, 7, 8, 9, 10, 11], [0, 1, 2, 3, 4, 5, 6, 7, 8, 9], [0, 1, 14, 15, 16, 17, 18, 19, 20, 27, 28, 29, 30, 31, 33]].getD c ([] : List Nat)).contains k
def ps_o (B r : Nat) : Option Nat := match r with
  | 0 => none
  | r + 1 => some (B + r)
def ps_fv (B : Nat) (M : ps_M) (c a k : Nat) : Value := if ps_rf c k = true then va_rf (ps_o B (ps_R M a k)) else .int (ps_I M a k)
abbrev ps_A : Type := ClassId × ClassId × ClassId
def ps_e (Y : ps_A) (B : Nat) (M : ps_M) (a : Nat) : va_E :=
  if ps_K M a = 21 then .inl (Y.1, ps_L M a, .inl (ps_I M a)) else if ps_K M a = 22 then .inl (Y.2.1, ps_L M a, .inl (ps_I M a)) else if ps_K M a = 23 then .inl (Y.2.2, ps_L M a, .inr (.inr (.inr (.inr (fun j => ps_o B (ps_R M a j)))))) else .inr (ps_K M a - 1, (List.range (ps_nf (ps_K M a - 1))).map (ps_fv B M (ps_K M a - 1) a))
def ps_W (D : va_G) (Y : ps_A) (B : Nat) (M : ps_M) (H : Heap) : Prop := H.size = B + ps_N M ∧ (∀ a, ps_N M ≤ a → ps_K M a = 0) ∧ ∀ a, a < ps_N M → va_at D vwCl (B + a, ps_e Y B M a) H
def ps_ty (Y : ps_A) : List (ClassId × FieldType) := [(Y.1, .int), (Y.2.1, .boolean), (Y.2.2, .object RX7)]
def ps_nl : List (String × Nat × MethodName × String) := [("PullSaw", 9, ⟨"PullSaw$Yard", "<init>", "()V"⟩, "PullSaw"), ("PullSaw", 18, ⟨"PullSaw$Reader", "<init>", "()V"⟩, "PullSaw"), ("PullSaw$Reader", 22, ⟨"PullSaw$Yard", "<init>", "()V"⟩, "PullSaw"), ("PullSaw", 25, ⟨"PullSaw$Work", "<init>", "()V"⟩, "PullSaw"), ("PullSaw$Past", 17, ⟨"PullSaw$Work", "<init>", "()V"⟩, "PullSaw"), ("PullSaw", 39, ⟨"PullSaw$Trial", "<init>", "()V"⟩, "PullSaw"), ("PullSaw$Trial", 11, ⟨"PullSaw$Work", "<init>", "()V"⟩, "PullSaw"), ("PullSaw", 46, ⟨"PullSaw$Balance", "<init>", "()V"⟩, "PullSaw"), ("PullSaw", 65, ⟨"PullSaw$Image", "<init>", "()V"⟩, "PullSaw"), ("PullSaw$Image", 9, ⟨"PullSaw$Work", "<init>", "()V"⟩, "PullSaw")]
def ps_nest (U : State) : Prop := ∀ q ∈ ps_nl, va_Nw (.methodLinkNest q.1 q.2.1 q.2.2.1 q.2.2.2) U
theorem ps_nest.warm {s U : State} (hW : s.WarmedH U.vm) (h : ps_nest s) : ps_nest U := fun q hq => va_Nw.warmM hW (h q hq)
theorem ps_nest.same {u U : State} (hv : u.vm = U.vm) (h : ps_nest u) : ps_nest U := fun q hq => va_Nw.same rfl hv (h q hq)
def ps_T (D : va_G) (Y : ps_A) (U : State) : Prop := va_K D vwCl (ps_ty Y) U ∧ ps_nest U ∧ va_AO RX7 U
theorem ps_T.warm {D : va_G} {Y : ps_A} {s U : State} (hW : s.WarmedH U.vm) (h : ps_T D Y s) : ps_T D Y U := ⟨va_K.moved hW.alike h.1, h.2.1.warm hW, va_AO.moved hW.alike h.2.2⟩
def ps_St (D : va_G) (Y : ps_A) (B : Nat) (M : ps_M) (U : State) : Prop := ps_W D Y B M U.heap ∧ ps_T D Y U
/-- what holds all through a method -/
def ps_C (p : Program) (s : State) (m : MethodId) (args : Array Value) (meth : Method) (c : Code) (cc : ByteArray) (nL : Nat) (own : String) (rt : Option FieldType) (nm : String) (D : va_G) (Y : ps_A) (B : Nat) : Prop :=
  p.tables.exec = Jvm.exec ∧ c.code = cc ∧ c.maxLocals = nL ∧ s.vm.findClass own = some m.cls ∧ (∀ w ∈ tb_G, w.before args s = true) ∧ ps_T D Y s ∧ meth.locks = false ∧ B ≤ s.heap.size ∧ meth.sig.returnType = rt ∧ meth.name = nm
/-- what is known of a class whose objects there are -/
def ps_cl (ci : Nat) (C' : String) (T : u_T) (N : Nat) (ty : Nat → FieldType) : Prop := vwCl[ci]? = some (C', T, N) ∧ ci < 20 ∧ (∀ w ∈ u_ws C' T N, w ∈ tb_G) ∧ ps_nf ci = N ∧ (∀ k, k < N → (T k).1 = C') ∧ (∀ k, k < N → parseFieldDescriptor (T k).2.2.1 = some (ty k)) ∧ (∀ a, a < N → ∀ b, b < N → a ≠ b → (T a).2.1 ≠ (T b).2.1) ∧ (∀ k, k < N → defaultValue (ty k) = if ps_rf ci k = true then .null else .int 0)
theorem ci_0 : ∀ w ∈ u_ws RX0 TX0 7, w ∈ tb_G := by
  show ∀ w ∈ ([.lays "PullSaw$Balance" "PullSaw$Balance" "fewest" "I", .lays "PullSaw$Balance" "PullSaw$Balance" "latestFirst" "I", .lays "PullSaw$Balance" "PullSaw$Balance" "askew" "I", .lays "PullSaw$Balance" "PullSaw$Balance" "lean" "I", .lays "PullSaw$Balance" "PullSaw$Balance" "most" "I", .lays "PullSaw$Balance" "PullSaw$Balance" "costs" "[I", .lays "PullSaw$Balance" "PullSaw$Balance" "laterCosts" "[I"] : List Cond), w ∈ tb_G
  exact List.forall_mem_cons.mpr ⟨tq_360, List.forall_mem_cons.mpr ⟨tq_362, List.forall_mem_cons.mpr ⟨tq_364, List.forall_mem_cons.mpr ⟨tq_366, List.forall_mem_cons.mpr ⟨tq_368, List.forall_mem_cons.mpr ⟨tq_370, List.forall_mem_cons.mpr ⟨tq_372, fun _ h => absurd h List.not_mem_nil⟩⟩⟩⟩⟩⟩⟩
theorem pc_0 : ps_cl 0 RX0 TX0 7 tyX0 := ⟨rfl, by decide, ci_0, rfl, by decide +kernel, tyX0_ok, nmX0, by decide +kernel⟩
theorem ci_1 : ∀ w ∈ u_ws RX1 TX1 3, w ∈ tb_G := by
  show ∀ w ∈ ([.laysFinal "PullSaw$Image" "PullSaw$Image" "work" "LPullSaw$Work;", .lays "PullSaw$Image" "PullSaw$Image" "seed" "I", .lays "PullSaw$Image" "PullSaw$Image" "kept" "Z"] : List Cond), w ∈ tb_G
  exact List.forall_mem_cons.mpr ⟨tq_389, List.forall_mem_cons.mpr ⟨tq_391, List.forall_mem_cons.mpr ⟨tq_393, fun _ h => absurd h List.not_mem_nil⟩⟩⟩
theorem pc_1 : ps_cl 1 RX1 TX1 3 tyX1 := ⟨rfl, by decide, ci_1, rfl, by decide +kernel, tyX1_ok, nmX1, by decide +kernel⟩
theorem ci_2 : ∀ w ∈ u_ws RX2 TX2 3, w ∈ tb_G := by
  show ∀ w ∈ ([.lays "PullSaw$Past" "PullSaw$Past" "count" "I", .lays "PullSaw$Past" "PullSaw$Past" "top" "I", .laysFinal "PullSaw$Past" "PullSaw$Past" "ring" "[LPullSaw$Work;"] : List Cond), w ∈ tb_G
  exact List.forall_mem_cons.mpr ⟨tq_295, List.forall_mem_cons.mpr ⟨tq_297, List.forall_mem_cons.mpr ⟨tq_299, fun _ h => absurd h List.not_mem_nil⟩⟩⟩
theorem pc_2 : ps_cl 2 RX2 TX2 3 tyX2 := ⟨rfl, by decide, ci_2, rfl, by decide +kernel, tyX2_ok, nmX2, by decide +kernel⟩
theorem ci_3 : ∀ w ∈ u_ws RX3 TX3 7, w ∈ tb_G := by
  show ∀ w ∈ ([.laysFinal "PullSaw$Reader" "PullSaw$Reader" "text" "LPullSaw$Sheet;", .laysFinal "PullSaw$Reader" "PullSaw$Reader" "draft" "LPullSaw$Yard;", .lays "PullSaw$Reader" "PullSaw$Reader" "faultKind" "I", .lays "PullSaw$Reader" "PullSaw$Reader" "faultPlace" "I", .lays "PullSaw$Reader" "PullSaw$Reader" "place" "I", .lays "PullSaw$Reader" "PullSaw$Reader" "sawTold" "Z", .lays "PullSaw$Reader" "PullSaw$Reader" "closeTold" "Z"] : List Cond), w ∈ tb_G
  exact List.forall_mem_cons.mpr ⟨tq_199, List.forall_mem_cons.mpr ⟨tq_201, List.forall_mem_cons.mpr ⟨tq_203, List.forall_mem_cons.mpr ⟨tq_205, List.forall_mem_cons.mpr ⟨tq_207, List.forall_mem_cons.mpr ⟨tq_209, List.forall_mem_cons.mpr ⟨tq_211, fun _ h => absurd h List.not_mem_nil⟩⟩⟩⟩⟩⟩⟩
theorem pc_3 : ps_cl 3 RX3 TX3 7 tyX3 := ⟨rfl, by decide, ci_3, rfl, by decide +kernel, tyX3_ok, nmX3, by decide +kernel⟩
theorem ci_4 : ∀ w ∈ u_ws RX5 TX5 2, w ∈ tb_G := by
  show ∀ w ∈ ([.laysFinal "PullSaw$Sheet" "PullSaw$Sheet" "marks" "[I", .lays "PullSaw$Sheet" "PullSaw$Sheet" "count" "I"] : List Cond), w ∈ tb_G
  exact List.forall_mem_cons.mpr ⟨tq_181, List.forall_mem_cons.mpr ⟨tq_183, fun _ h => absurd h List.not_mem_nil⟩⟩
theorem pc_4 : ps_cl 4 RX5 TX5 2 tyX5 := ⟨rfl, by decide, ci_4, rfl, by decide +kernel, tyX5_ok, nmX5, by decide +kernel⟩
theorem ci_5 : ∀ w ∈ u_ws RX6 TX6 10, w ∈ tb_G := by
  show ∀ w ∈ ([.lays "PullSaw$Trial" "PullSaw$Trial" "fewest" "I", .lays "PullSaw$Trial" "PullSaw$Trial" "firstWish" "I", .lays "PullSaw$Trial" "PullSaw$Trial" "otherWish" "I", .lays "PullSaw$Trial" "PullSaw$Trial" "deepest" "I", .lays "PullSaw$Trial" "PullSaw$Trial" "leftTired" "I", .lays "PullSaw$Trial" "PullSaw$Trial" "rightTired" "I", .lays "PullSaw$Trial" "PullSaw$Trial" "leftAnswer" "I", .lays "PullSaw$Trial" "PullSaw$Trial" "rightAnswer" "I", .laysFinal "PullSaw$Trial" "PullSaw$Trial" "tried" "LPullSaw$Work;", .laysFinal "PullSaw$Trial" "PullSaw$Trial" "further" "LPullSaw$Work;"] : List Cond), w ∈ tb_G
  exact List.forall_mem_cons.mpr ⟨tq_324, List.forall_mem_cons.mpr ⟨tq_326, List.forall_mem_cons.mpr ⟨tq_328, List.forall_mem_cons.mpr ⟨tq_330, List.forall_mem_cons.mpr ⟨tq_332, List.forall_mem_cons.mpr ⟨tq_334, List.forall_mem_cons.mpr ⟨tq_336, List.forall_mem_cons.mpr ⟨tq_338, List.forall_mem_cons.mpr ⟨tq_340, List.forall_mem_cons.mpr ⟨tq_342, fun _ h => absurd h List.not_mem_nil⟩⟩⟩⟩⟩⟩⟩⟩⟩⟩
theorem pc_5 : ps_cl 5 RX6 TX6 10 tyX6 := ⟨rfl, by decide, ci_5, rfl, by decide +kernel, tyX6_ok, nmX6, by decide +kernel⟩
theorem ci_6 : ∀ w ∈ u_ws RX7 TX7 13, w ∈ tb_G := by
  show ∀ w ∈ ([.lays "PullSaw$Work" "PullSaw$Work" "left" "I", .lays "PullSaw$Work" "PullSaw$Work" "right" "I", .lays "PullSaw$Work" "PullSaw$Work" "next" "I", .lays "PullSaw$Work" "PullSaw$Work" "depth" "I", .lays "PullSaw$Work" "PullSaw$Work" "strokes" "I", .lays "PullSaw$Work" "PullSaw$Work" "askew" "I", .lays "PullSaw$Work" "PullSaw$Work" "gum" "I", .lays "PullSaw$Work" "PullSaw$Work" "teeth" "I", .lays "PullSaw$Work" "PullSaw$Work" "wedged" "Z", .laysFinal "PullSaw$Work" "PullSaw$Work" "wishes" "[I", .laysFinal "PullSaw$Work" "PullSaw$Work" "habits" "[I", .laysFinal "PullSaw$Work" "PullSaw$Work" "tired" "[I", .laysFinal "PullSaw$Work" "PullSaw$Work" "answers" "[I"] : List Cond), w ∈ tb_G
  exact List.forall_mem_cons.mpr ⟨tq_255, List.forall_mem_cons.mpr ⟨tq_257, List.forall_mem_cons.mpr ⟨tq_259, List.forall_mem_cons.mpr ⟨tq_261, List.forall_mem_cons.mpr ⟨tq_263, List.forall_mem_cons.mpr ⟨tq_265, List.forall_mem_cons.mpr ⟨tq_267, List.forall_mem_cons.mpr ⟨tq_269, List.forall_mem_cons.mpr ⟨tq_271, List.forall_mem_cons.mpr ⟨tq_273, List.forall_mem_cons.mpr ⟨tq_275, List.forall_mem_cons.mpr ⟨tq_277, List.forall_mem_cons.mpr ⟨tq_279, fun _ h => absurd h List.not_mem_nil⟩⟩⟩⟩⟩⟩⟩⟩⟩⟩⟩⟩⟩
theorem pc_6 : ps_cl 6 RX7 TX7 13 tyX7 := ⟨rfl, by decide, ci_6, rfl, by decide +kernel, tyX7_ok, nmX7, by decide +kernel⟩
theorem ci_7 : ∀ w ∈ u_ws RX8 TX8 12, w ∈ tb_G := by
  show ∀ w ∈ ([.lays "PullSaw$Yard" "PullSaw$Yard" "layers" "I", .lays "PullSaw$Yard" "PullSaw$Yard" "people" "I", .lays "PullSaw$Yard" "PullSaw$Yard" "teeth" "I", .lays "PullSaw$Yard" "PullSaw$Yard" "limit" "I", .lays "PullSaw$Yard" "PullSaw$Yard" "resin" "I", .lays "PullSaw$Yard" "PullSaw$Yard" "closes" "I", .laysFinal "PullSaw$Yard" "PullSaw$Yard" "woods" "[I", .laysFinal "PullSaw$Yard" "PullSaw$Yard" "forces" "[I", .laysFinal "PullSaw$Yard" "PullSaw$Yard" "heights" "[I", .laysFinal "PullSaw$Yard" "PullSaw$Yard" "tires" "[I", .laysFinal "PullSaw$Yard" "PullSaw$Yard" "firstHabits" "[I", .laysFinal "PullSaw$Yard" "PullSaw$Yard" "bents" "[I"] : List Cond), w ∈ tb_G
  exact List.forall_mem_cons.mpr ⟨tq_135, List.forall_mem_cons.mpr ⟨tq_137, List.forall_mem_cons.mpr ⟨tq_139, List.forall_mem_cons.mpr ⟨tq_141, List.forall_mem_cons.mpr ⟨tq_143, List.forall_mem_cons.mpr ⟨tq_145, List.forall_mem_cons.mpr ⟨tq_147, List.forall_mem_cons.mpr ⟨tq_149, List.forall_mem_cons.mpr ⟨tq_151, List.forall_mem_cons.mpr ⟨tq_153, List.forall_mem_cons.mpr ⟨tq_155, List.forall_mem_cons.mpr ⟨tq_157, fun _ h => absurd h List.not_mem_nil⟩⟩⟩⟩⟩⟩⟩⟩⟩⟩⟩⟩
theorem pc_7 : ps_cl 7 RX8 TX8 12 tyX8 := ⟨rfl, by decide, ci_7, rfl, by decide +kernel, tyX8_ok, nmX8, by decide +kernel⟩
theorem ci_8 : ∀ w ∈ u_ws RX9 TX9 11, w ∈ tb_G := by
  show ∀ w ∈ ([.laysFinal "PullSaw" "PullSaw" "yard" "LPullSaw$Yard;", .laysFinal "PullSaw" "PullSaw" "reader" "LPullSaw$Reader;", .laysFinal "PullSaw" "PullSaw" "now" "LPullSaw$Work;", .laysFinal "PullSaw" "PullSaw" "past" "LPullSaw$Past;", .laysFinal "PullSaw" "PullSaw" "trial" "LPullSaw$Trial;", .laysFinal "PullSaw" "PullSaw" "balance" "LPullSaw$Balance;", .laysFinal "PullSaw" "PullSaw" "seen" "LPullSaw$Sheet;", .laysFinal "PullSaw" "PullSaw" "book" "LPullSaw$Sheet;", .laysFinal "PullSaw" "PullSaw" "first" "LPullSaw$Image;", .laysFinal "PullSaw" "PullSaw" "second" "LPullSaw$Image;", .lays "PullSaw" "PullSaw" "seed" "I"] : List Cond), w ∈ tb_G
  exact List.forall_mem_cons.mpr ⟨tq_407, List.forall_mem_cons.mpr ⟨tq_409, List.forall_mem_cons.mpr ⟨tq_411, List.forall_mem_cons.mpr ⟨tq_413, List.forall_mem_cons.mpr ⟨tq_415, List.forall_mem_cons.mpr ⟨tq_417, List.forall_mem_cons.mpr ⟨tq_419, List.forall_mem_cons.mpr ⟨tq_421, List.forall_mem_cons.mpr ⟨tq_423, List.forall_mem_cons.mpr ⟨tq_425, List.forall_mem_cons.mpr ⟨tq_427, fun _ h => absurd h List.not_mem_nil⟩⟩⟩⟩⟩⟩⟩⟩⟩⟩⟩
theorem pc_8 : ps_cl 8 RX9 TX9 11 tyX9 := ⟨rfl, by decide, ci_8, rfl, by decide +kernel, tyX9_ok, nmX9, by decide +kernel⟩
theorem ci_9 : ∀ w ∈ u_ws RX10 TX10 35, w ∈ tb_G := by
  show ∀ w ∈ ([.laysFinal "PullSawModel" "PullSawModel" "w" "[I", .laysFinal "PullSawModel" "PullSawModel" "isKept" "[Z", .lays "PullSawModel" "PullSawModel" "layers" "I", .lays "PullSawModel" "PullSawModel" "people" "I", .lays "PullSawModel" "PullSawModel" "limit" "I", .lays "PullSawModel" "PullSawModel" "resin" "I", .lays "PullSawModel" "PullSawModel" "closes" "I", .lays "PullSawModel" "PullSawModel" "newLayers" "I", .lays "PullSawModel" "PullSawModel" "newPeople" "I", .lays "PullSawModel" "PullSawModel" "newTeeth" "I", .lays "PullSawModel" "PullSawModel" "newLimit" "I", .lays "PullSawModel" "PullSawModel" "newResin" "I", .lays "PullSawModel" "PullSawModel" "newCloses" "I", .lays "PullSawModel" "PullSawModel" "told" "I", .laysFinal "PullSawModel" "PullSawModel" "wood" "[I", .laysFinal "PullSawModel" "PullSawModel" "force" "[I", .laysFinal "PullSawModel" "PullSawModel" "height" "[I", .laysFinal "PullSawModel" "PullSawModel" "tires" "[I", .laysFinal "PullSawModel" "PullSawModel" "habit" "[I", .laysFinal "PullSawModel" "PullSawModel" "bent" "[I", .laysFinal "PullSawModel" "PullSawModel" "text" "[I", .lays "PullSawModel" "PullSawModel" "textSize" "I", .lays "PullSawModel" "PullSawModel" "at" "I", .lays "PullSawModel" "PullSawModel" "first" "I", .lays "PullSawModel" "PullSawModel" "faultOf" "I", .lays "PullSawModel" "PullSawModel" "fault" "I", .lays "PullSawModel" "PullSawModel" "undoMany" "I", .laysFinal "PullSawModel" "PullSawModel" "change" "[I", .laysFinal "PullSawModel" "PullSawModel" "changeThen" "[I", .laysFinal "PullSawModel" "PullSawModel" "late" "[I", .laysFinal "PullSawModel" "PullSawModel" "lateThen" "[I", .laysFinal "PullSawModel" "PullSawModel" "seen" "[I", .lays "PullSawModel" "PullSawModel" "seenMany" "I", .laysFinal "PullSawModel" "PullSawModel" "book" "[I", .lays "PullSawModel" "PullSawModel" "written" "I"] : List Cond), w ∈ tb_G
  exact List.forall_mem_cons.mpr ⟨tq_953, List.forall_mem_cons.mpr ⟨tq_955, List.forall_mem_cons.mpr ⟨tq_957, List.forall_mem_cons.mpr ⟨tq_959, List.forall_mem_cons.mpr ⟨tq_961, List.forall_mem_cons.mpr ⟨tq_963, List.forall_mem_cons.mpr ⟨tq_965, List.forall_mem_cons.mpr ⟨tq_967, List.forall_mem_cons.mpr ⟨tq_969, List.forall_mem_cons.mpr ⟨tq_971, List.forall_mem_cons.mpr ⟨tq_973, List.forall_mem_cons.mpr ⟨tq_975, List.forall_mem_cons.mpr ⟨tq_977, List.forall_mem_cons.mpr ⟨tq_979, List.forall_mem_cons.mpr ⟨tq_981, List.forall_mem_cons.mpr ⟨tq_983, List.forall_mem_cons.mpr ⟨tq_985, List.forall_mem_cons.mpr ⟨tq_987, List.forall_mem_cons.mpr ⟨tq_989, List.forall_mem_cons.mpr ⟨tq_991, List.forall_mem_cons.mpr ⟨tq_993, List.forall_mem_cons.mpr ⟨tq_995, List.forall_mem_cons.mpr ⟨tq_997, List.forall_mem_cons.mpr ⟨tq_999, List.forall_mem_cons.mpr ⟨tq_1001, List.forall_mem_cons.mpr ⟨tq_1003, List.forall_mem_cons.mpr ⟨tq_1005, List.forall_mem_cons.mpr ⟨tq_1007, List.forall_mem_cons.mpr ⟨tq_1009, List.forall_mem_cons.mpr ⟨tq_1011, List.forall_mem_cons.mpr ⟨tq_1013, List.forall_mem_cons.mpr ⟨tq_1015, List.forall_mem_cons.mpr ⟨tq_1017, List.forall_mem_cons.mpr ⟨tq_1019, List.forall_mem_cons.mpr ⟨tq_1021, fun _ h => absurd h List.not_mem_nil⟩⟩⟩⟩⟩⟩⟩⟩⟩⟩⟩⟩⟩⟩⟩⟩⟩⟩⟩⟩⟩⟩⟩⟩⟩⟩⟩⟩⟩⟩⟩⟩⟩⟩⟩
theorem pc_9 : ps_cl 9 RX10 TX10 35 tyX10 := ⟨rfl, by decide, ci_9, rfl, by decide +kernel, tyX10_ok, nmX10, by decide +kernel⟩
/-! ===== what a method says of the memory, in the order of its instructions ===== -/
def ps_gI {α : Type} (M : ps_M) (a ci k : Nat) (f : Int32 → Option α) : Option α := if ps_K M a = ci + 1 then f (ps_I M a k) else none
def ps_gR {α : Type} (M : ps_M) (a ci k : Nat) (f : Nat → Option α) : Option α := if ps_K M a = ci + 1 then (match ps_R M a k with | 0 => none | r + 1 => f r) else none
def ps_pI {α : Type} (M : ps_M) (a ci k : Nat) (v : Int32) (f : ps_M → Option α) : Option α := if ps_K M a = ci + 1 then f (ps_sI M a k v) else none
def ps_pZ {α : Type} (M : ps_M) (a ci k : Nat) (v : Int32) (f : ps_M → Option α) : Option α := if ps_K M a = ci + 1 ∧ (v = 0 ∨ v = 1) then f (ps_sI M a k v) else none
def ps_pR {α : Type} (M : ps_M) (a ci k r : Nat) (f : ps_M → Option α) : Option α := if ps_K M a = ci + 1 then f (ps_sR M a k (r + 1)) else none
def ps_aI {α : Type} (M : ps_M) (a : Nat) (i : Int32) (f : Int32 → Option α) : Option α := if ps_K M a = 21 ∧ ¬ (i < 0 ∨ ps_L M a ≤ i.toNatClampNeg) then f (ps_I M a i.toNatClampNeg) else none
def ps_aZ {α : Type} (M : ps_M) (a : Nat) (i : Int32) (f : Int32 → Option α) : Option α := if ps_K M a = 22 ∧ ¬ (i < 0 ∨ ps_L M a ≤ i.toNatClampNeg) then f (ps_I M a i.toNatClampNeg) else none
def ps_aR {α : Type} (M : ps_M) (a : Nat) (i : Int32) (f : Nat → Option α) : Option α := if ps_K M a = 23 ∧ ¬ (i < 0 ∨ ps_L M a ≤ i.toNatClampNeg) then f (ps_R M a i.toNatClampNeg) else none
def ps_aL {α : Type} (M : ps_M) (a : Nat) (f : Int32 → Option α) : Option α := if ps_K M a = 21 ∨ ps_K M a = 23 then f (Int32.ofNat (ps_L M a)) else none
def ps_xI {α : Type} (M : ps_M) (a : Nat) (i v : Int32) (f : ps_M → Option α) : Option α := if ps_K M a = 21 ∧ ¬ (i < 0 ∨ ps_L M a ≤ i.toNatClampNeg) then f (ps_sI M a i.toNatClampNeg v) else none
def ps_xZ {α : Type} (M : ps_M) (a : Nat) (i v : Int32) (f : ps_M → Option α) : Option α := if ps_K M a = 22 ∧ ¬ (i < 0 ∨ ps_L M a ≤ i.toNatClampNeg) ∧ (v = 0 ∨ v = 1) then f (ps_sI M a i.toNatClampNeg v) else none
def ps_ck {α : Type} (M : ps_M) (a ci : Nat) (X : Option α) : Option α := if ps_K M a = ci + 1 then X else none
def ps_b2 {α β : Type} (X : Option (β × ps_M)) (f : β → ps_M → Option α) : Option α := match X with
  | none => none
  | some q => f q.1 q.2
def ps_b1 {α : Type} (X : Option ps_M) (f : ps_M → Option α) : Option α := match X with
  | none => none
  | some M => f M
def ps_nn {α : Type} (e : Nat) (A : Option α) (f : Nat → Option α) : Option α := match e with
  | 0 => A
  | r + 1 => f r
def ps_z (x : Int32) (M : ps_M) : Option (Int32 × ps_M) := if x = 0 ∨ x = 1 then some (x, M) else none
def ps_dv {α : Type} (y : Int32) (X : Option α) : Option α := if y = 0 then none else X
def ps_dvl {α : Type} (y : Int64) (X : Option α) : Option α := if y = 0 then none else X
theorem ps_e_obj (Y : ps_A) (B : Nat) {M : ps_M} {a ci : Nat} (hK : ps_K M a = ci + 1) (hci : ci < 20) : ps_e Y B M a = .inr (ci, (List.range (ps_nf ci)).map (ps_fv B M ci a)) := by
  unfold ps_e
  rw [hK, if_neg (by omega), if_neg (by omega), if_neg (by omega), Nat.add_sub_cancel]
theorem ps_e_I (Y : ps_A) (B : Nat) {M : ps_M} {a : Nat} (hK : ps_K M a = 21) : ps_e Y B M a = .inl (Y.1, ps_L M a, .inl (ps_I M a)) := by
  unfold ps_e
  rw [if_pos hK]
theorem ps_e_Z (Y : ps_A) (B : Nat) {M : ps_M} {a : Nat} (hK : ps_K M a = 22) : ps_e Y B M a = .inl (Y.2.1, ps_L M a, .inl (ps_I M a)) := by
  unfold ps_e
  rw [if_neg (by omega), if_pos hK]
theorem ps_e_R (Y : ps_A) (B : Nat) {M : ps_M} {a : Nat} (hK : ps_K M a = 23) : ps_e Y B M a = .inl (Y.2.2, ps_L M a, .inr (.inr (.inr (.inr (fun j => ps_o B (ps_R M a j)))))) := by
  unfold ps_e
  rw [if_neg (by omega), if_neg (by omega), if_pos hK]
theorem ps_at {D : va_G} {Y : ps_A} {B : Nat} {M : ps_M} {H : Heap} (hW : ps_W D Y B M H) {a : Nat} (hK : ps_K M a ≠ 0) : a < ps_N M ∧ va_at D vwCl (B + a, ps_e Y B M a) H := by
  obtain ⟨-, h0, h1⟩ := hW
  have ha : a < ps_N M := Nat.lt_of_not_le (fun q => hK (h0 a q))
  exact ⟨ha, h1 a ha⟩
theorem ps_one {D : va_G} {q : Nat × va_E} {H : Heap} (h : va_at D vwCl q H) : va_P D vwCl [q] H := by
  intro k x hx
  cases k with
  | zero => cases hx; exact h
  | succ k => simp at hx
theorem ps_e_sI (Y : ps_A) (B : Nat) (M : ps_M) {a k b : Nat} (v : Int32) (h : b ≠ a) : ps_e Y B (ps_sI M a k v) b = ps_e Y B M b := by
  have e1 : ps_I (ps_sI M a k v) b = ps_I M b := by
    funext y
    simp [ps_I, ps_sI, ps_uI, h]
  have e2 : ps_fv B (ps_sI M a k v) (ps_K M b - 1) b = ps_fv B M (ps_K M b - 1) b := by
    funext y
    unfold ps_fv
    rw [e1]
    rfl
  unfold ps_e
  rw [e1, show ps_K (ps_sI M a k v) b = ps_K M b from rfl, e2]
  rfl
theorem ps_e_sR (Y : ps_A) (B : Nat) (M : ps_M) {a k b : Nat} (v : Nat) (h : b ≠ a) : ps_e Y B (ps_sR M a k v) b = ps_e Y B M b := by
  have e1 : ps_R (ps_sR M a k v) b = ps_R M b := by
    funext y
    simp [ps_R, ps_sR, ps_uR, h]
  have e2 : ps_fv B (ps_sR M a k v) (ps_K M b - 1) b = ps_fv B M (ps_K M b - 1) b := by
    funext y
    unfold ps_fv
    rw [e1]
    rfl
  unfold ps_e
  rw [e1, show ps_K (ps_sR M a k v) b = ps_K M b from rfl, e2]
  rfl
/-- a cell written: the memory's picture behind it -/
theorem ps_W.put {D : va_G} {Y : ps_A} {B : Nat} {M M1 : ps_M} {H H1 : Heap} (hW : ps_W D Y B M H) {a : Nat} (hN : ps_N M1 = ps_N M) (hKK : ps_K M1 = ps_K M) (he : ∀ b, b ≠ a → ps_e Y B M1 b = ps_e Y B M b) (z : H1.size = H.size) (oq : ∀ q : Nat, q ≠ B + a → H1[q]? = H[q]?) (hat : va_at D vwCl (B + a, ps_e Y B M1 a) H1) : ps_W D Y B M1 H1 := by
  obtain ⟨h1, h2, h3⟩ := hW
  refine ⟨by rw [z, hN]; exact h1, fun b hb => by rw [hKK]; exact h2 b (by rw [← hN]; exact hb), fun b hb => ?_⟩
  by_cases hba : b = a
  · subst hba
    exact hat
  · rw [he b hba]
    exact (h3 b (by rw [← hN]; exact hb)).kept (oq (B + b) (by omega))
section
variable {p : Program} {l : Launch} {e : Env} {R : Room} {s : State} {m : MethodId} {args : Array Value} {below : List Frame} {meth : Method} {c : Code} {H : Heap} {locs : List Loc} {cells slots : Nat} {Q : State → Prop}
variable {cc : ByteArray} {nL : Nat} {own nm : String} {rt : Option FieldType} {D : va_G} {Y : ps_A} {B : Nat} {M : ps_M} {pc : Nat} {ls : Array Slot} {rest : List Value} {α : Type} {res : α}
theorem pw_get (C : ps_C p s m args meth c cc nL own rt nm D Y B) (hW : ps_W D Y B M H) {ci index a : Nat} {C' : String} {T : u_T} {N : Nat} {ty : Nat → FieldType} (hc : ps_cl ci C' T N ty) {k : Nat} (hk : k < N) (hlink : Cond.fieldLink own index C' (T k).2.1 (T k).2.2.1 ∈ tb_G) (hK : ps_K M a = ci + 1) (hdg : decode cc pc = .ok (.getfield index, 3))
    (kk : W p l e R s m args below meth c H locs cells slots Q (F0 m (pc + 3) ls (ps_fv B M ci a k :: rest))) : W p l e R s m args below meth c H locs cells slots Q (F0 m pc ls (.ref (B + a) :: rest)) := by
  obtain ⟨hx, hb, hml, hown, hts, hT, -⟩ := C
  obtain ⟨hc, hci, hin, hnf, hsame, -⟩ := hc
  have hat := (ps_at hW (by rw [hK]; omega)).2
  rw [ps_e_obj Y B hK hci] at hat
  exact va_get hx hb hts hin hown hT.1 (ps_one hat) 0 rfl hc k hk (hts _ hlink) (fun x h => by rw [← hsame k hk]; exact h) (by simp [hnf, hk]) hdg kk
theorem pw_gI (C : ps_C p s m args meth c cc nL own rt nm D Y B) (hW : ps_W D Y B M H) {ci index a : Nat} {C' : String} {T : u_T} {N : Nat} {ty : Nat → FieldType} (hc : ps_cl ci C' T N ty) {k : Nat} (hk : k < N) (hr : ps_rf ci k = false) (hlink : Cond.fieldLink own index C' (T k).2.1 (T k).2.2.1 ∈ tb_G) (hdg : decode cc pc = .ok (.getfield index, 3)) {f : Int32 → Option α} (hF : ps_gI M a ci k f = some res)
    (kk : ∀ x : Int32, f x = some res → W p l e R s m args below meth c H locs cells slots Q (F0 m (pc + 3) ls (.int x :: rest))) : W p l e R s m args below meth c H locs cells slots Q (F0 m pc ls (.ref (B + a) :: rest)) := by
  unfold ps_gI at hF
  by_cases hK : ps_K M a = ci + 1
  · rw [if_pos hK] at hF
    refine pw_get C hW hc hk hlink hK hdg ?_
    have e1 : ps_fv B M ci a k = .int (ps_I M a k) := by unfold ps_fv; rw [hr]; rfl
    rw [e1]
    exact kk _ hF
  · rw [if_neg hK] at hF
    cases hF
theorem pw_gR (C : ps_C p s m args meth c cc nL own rt nm D Y B) (hW : ps_W D Y B M H) {ci index a : Nat} {C' : String} {T : u_T} {N : Nat} {ty : Nat → FieldType} (hc : ps_cl ci C' T N ty) {k : Nat} (hk : k < N) (hr : ps_rf ci k = true) (hlink : Cond.fieldLink own index C' (T k).2.1 (T k).2.2.1 ∈ tb_G) (hdg : decode cc pc = .ok (.getfield index, 3)) {f : Nat → Option α} (hF : ps_gR M a ci k f = some res)
    (kk : ∀ x : Nat, f x = some res → W p l e R s m args below meth c H locs cells slots Q (F0 m (pc + 3) ls (.ref (B + x) :: rest))) : W p l e R s m args below meth c H locs cells slots Q (F0 m pc ls (.ref (B + a) :: rest)) := by
  unfold ps_gR at hF
  by_cases hK : ps_K M a = ci + 1
  · rw [if_pos hK] at hF
    refine pw_get C hW hc hk hlink hK hdg ?_
    have e1 : ps_fv B M ci a k = va_rf (ps_o B (ps_R M a k)) := by unfold ps_fv; rw [if_pos hr]
    rw [e1]
    cases hR : ps_R M a k with
    | zero => rw [hR] at hF; cases hF
    | succ r => rw [hR] at hF; exact kk r hF
  · rw [if_neg hK] at hF
    cases hF
theorem ps_putfv {ci k a : Nat} {v : Value} {M1 : ps_M} (hfv : ∀ j, ps_fv B M1 ci a j = if j = k then v else ps_fv B M ci a j) (hk : k < ps_nf ci) : ∀ j, j < ps_nf ci → vp_V (((List.range (ps_nf ci)).map (ps_fv B M ci a)).set k v) j = vp_V ((List.range (ps_nf ci)).map (ps_fv B M1 ci a)) j := by
  intro j hj
  unfold vp_V
  simp only [List.getD_eq_getElem?_getD, List.getElem?_set, List.getElem?_map, List.length_map, List.length_range]
  by_cases h : k = j
  · subst h
    simp [hk, hfv]
  · have h' : ¬ j = k := fun q => h q.symm
    simp [h, h', hj, hfv]
theorem pw_put (C : ps_C p s m args meth c cc nL own rt nm D Y B) (hW : ps_W D Y B M H) (hS : va_S (fun q => B ≤ q) s.heap H locs) {ci index a : Nat} {C' : String} {T : u_T} {N : Nat} {ty : Nat → FieldType} (hc : ps_cl ci C' T N ty) {k : Nat} (hk : k < N) (hlink : Cond.fieldLink own index C' (T k).2.1 (T k).2.2.1 ∈ tb_G) (hfin : (T k).2.2.2 = false ∨ (nm = "<init>" ∧ C' = own)) (hK : ps_K M a = ci + 1) {v : Value} (hn : narrow (ty k) v = v) (hfit : fits (ty k) v = true) (hdg : decode cc pc = .ok (.putfield index, 3)) {M1 : ps_M} (hN1 : ps_N M1 = ps_N M) (hK1 : ps_K M1 = ps_K M) (he : ∀ b, b ≠ a → ps_e Y B M1 b = ps_e Y B M b) (hfv : ∀ j, ps_fv B M1 ci a j = if j = k then v else ps_fv B M ci a j)
    (kk : ∀ (H1 : Heap) (locs1 : List Loc), ps_W D Y B M1 H1 → va_S (fun q => B ≤ q) s.heap H1 locs1 → W p l e R s m args below meth c H1 locs1 cells slots Q (F0 m (pc + 3) ls rest)) : W p l e R s m args below meth c H locs cells slots Q (F0 m pc ls (v :: .ref (B + a) :: rest)) := by
  obtain ⟨hx, hb, hml, hown, hts, hT, -, -, -, hnm⟩ := C
  obtain ⟨hc, hci, hin, hnf, hsame, hty, hnmm, -⟩ := hc
  have hin' : ∀ w ∈ u_ws C' T N, w ∈ tb_G := hin
  have hap := va_apart (own := own) hts hin ty hty hnmm hT.1 hc
  have hat := (ps_at hW (a := a) (by rw [hK]; omega)).2
  rw [ps_e_obj Y B hK hci] at hat
  obtain ⟨r, h1, cell, q1, q2, q3, q4⟩ := hat
  have hr : r = (C', T, N) := Option.some.inj (h1.symm.trans hc)
  subst hr
  obtain ⟨hSl, hfc, kC, hkC, hkind⟩ := hT.1.1 ci _ hc
  obtain ⟨cf, kf, fi, f, hi, hsl⟩ := hSl k hk
  have hlay := hts _ (hin _ (u_in_lay hk))
  unfold u_lay at hlay
  have hst := (u_facts hfc hkC (u_lays hts hin hk) hi).1
  have hi' : s.fieldFound? C' (T k).2.1 (T k).2.2.1 = some (cf, kf, fi, f) := by rw [← hsame k hk]; exact hi
  have fin : ∀ H' : Heap, H'[B + a]? = some (cell.setSlot f.slot v) → H'.size = H.size → (∀ q, q ≠ B + a → H'[q]? = H[q]?) → W p l e R s m args below meth c H' (locs ++ [⟨B + a, f.slot⟩]) cells slots Q (F0 m (pc + 3) ls rest) := by
    intro H' e1 e2 e3
    rw [hsl] at e1
    refine kk H' _ (hW.put hN1 hK1 he e2 e3 ?_) (hS.put e2 e3 (Nat.le_add_right B a))
    rw [ps_e_obj Y B (by rw [hK1]; exact hK) hci]
    have hkf : k < ps_nf ci := by rw [hnf]; exact hk
    refine ⟨_, hc, t_OB.to (V := updV (vp_V ((List.range (ps_nf ci)).map (ps_fv B M ci a))) k v) ⟨_, e1, q2, q3, t_set q4 hap hk v⟩ (fun j hj => ?_)⟩
    rw [vp_updV_set (by simpa using hkf) v j]
    exact ps_putfv hfv hkf j (by rw [hnf]; exact hj)
  by_cases hfn : (T k).2.2.2 = true
  · rw [if_pos hfn] at hlay
    have hcf : m.cls = cf := by
      obtain ⟨_, _, c', _, _, _, -, -, hf', -, -, -, hown2, -⟩ := Cond.laysFinal_spec hlay
      have e1 : c' = cf := by have := hi.symm.trans hf'; simp at this; exact this.1.symm
      rcases hfin with h | ⟨-, h⟩
      · rw [h] at hfn; cases hfn
      · rw [hsame k hk, h] at hown2
        rw [← e1]
        exact Option.some.inj (hown.symm.trans hown2)
    have h6 := u_fits hfc hkC hkind (Or.inr hlay) hi (hty k hk) hn hfit
    refine W.putFinK hx hb hown (hts _ hlink) hi' hst hcf ?_ (by rw [q2]; exact h6) q1 q3 (by rw [hsl]; exact k2_hasslot (q4 k hk)) rfl rfl hdg fin
    rcases hfin with h | ⟨h, -⟩
    · rw [h] at hfn; cases hfn
    · rw [hnm]; exact h
  · rw [if_neg hfn] at hlay
    have h6 := u_store hfc hkC hkind hlay hi (hty k hk) hn hfit
    exact W.putK hx hb (f := f) ⟨hown, hts _ hlink, ⟨_, _, _, hi'⟩, hst⟩ (by rw [q2]; exact h6) q1 q3 (by rw [hsl]; exact k2_hasslot (q4 k hk)) rfl rfl hdg fin
theorem ps_fv_sI {ci k a : Nat} (v : Int32) (hr : ps_rf ci k = false) : ∀ j, ps_fv B (ps_sI M a k v) ci a j = if j = k then .int v else ps_fv B M ci a j := by
  intro j
  unfold ps_fv
  by_cases h : j = k
  · subst h
    simp [hr, ps_I, ps_sI, ps_uI]
  · simp [h, ps_I, ps_sI, ps_uI, ps_R]
theorem ps_fv_sR {ci k a : Nat} (v : Nat) (hr : ps_rf ci k = true) : ∀ j, ps_fv B (ps_sR M a k (v + 1)) ci a j = if j = k then .ref (B + v) else ps_fv B M ci a j := by
  intro j
  unfold ps_fv
  by_cases h : j = k
  · subst h
    simp [hr, ps_R, ps_sR, ps_uR, ps_o, va_rf]
  · simp [h, ps_I, ps_sR, ps_uR, ps_R]
theorem pw_pI (C : ps_C p s m args meth c cc nL own rt nm D Y B) (hW : ps_W D Y B M H) (hS : va_S (fun q => B ≤ q) s.heap H locs) {ci index a : Nat} {C' : String} {T : u_T} {N : Nat} {ty : Nat → FieldType} (hc : ps_cl ci C' T N ty) {k : Nat} (hk : k < N) (hty : ty k = .int) (hr : ps_rf ci k = false) (hlink : Cond.fieldLink own index C' (T k).2.1 (T k).2.2.1 ∈ tb_G) (hfin : (T k).2.2.2 = false) (hdg : decode cc pc = .ok (.putfield index, 3)) {v : Int32} {f : ps_M → Option α} (hF : ps_pI M a ci k v f = some res)
    (kk : ∀ (M : ps_M) (H : Heap) (locs : List Loc), ps_W D Y B M H → va_S (fun q => B ≤ q) s.heap H locs → f M = some res → W p l e R s m args below meth c H locs cells slots Q (F0 m (pc + 3) ls rest)) : W p l e R s m args below meth c H locs cells slots Q (F0 m pc ls (.int v :: .ref (B + a) :: rest)) := by
  unfold ps_pI at hF
  by_cases hK : ps_K M a = ci + 1
  · rw [if_pos hK] at hF
    exact pw_put C hW hS hc hk hlink (Or.inl hfin) hK (by rw [hty]; rfl) (by rw [hty]; rfl) hdg (M1 := ps_sI M a k v) rfl rfl (fun b hb => ps_e_sI Y B M v hb) (ps_fv_sI v hr) (fun H1 locs1 h1 h2 => kk _ H1 locs1 h1 h2 hF)
  · rw [if_neg hK] at hF
    cases hF
theorem pw_pZ (C : ps_C p s m args meth c cc nL own rt nm D Y B) (hW : ps_W D Y B M H) (hS : va_S (fun q => B ≤ q) s.heap H locs) {ci index a : Nat} {C' : String} {T : u_T} {N : Nat} {ty : Nat → FieldType} (hc : ps_cl ci C' T N ty) {k : Nat} (hk : k < N) (hty : ty k = .boolean) (hr : ps_rf ci k = false) (hlink : Cond.fieldLink own index C' (T k).2.1 (T k).2.2.1 ∈ tb_G) (hfin : (T k).2.2.2 = false) (hdg : decode cc pc = .ok (.putfield index, 3)) {v : Int32} {f : ps_M → Option α} (hF : ps_pZ M a ci k v f = some res)
    (kk : ∀ (M : ps_M) (H : Heap) (locs : List Loc), ps_W D Y B M H → va_S (fun q => B ≤ q) s.heap H locs → f M = some res → W p l e R s m args below meth c H locs cells slots Q (F0 m (pc + 3) ls rest)) : W p l e R s m args below meth c H locs cells slots Q (F0 m pc ls (.int v :: .ref (B + a) :: rest)) := by
  unfold ps_pZ at hF
  by_cases hK : ps_K M a = ci + 1 ∧ (v = 0 ∨ v = 1)
  · rw [if_pos hK] at hF
    obtain ⟨hK, hv⟩ := hK
    exact pw_put C hW hS hc hk hlink (Or.inl hfin) hK (by rw [hty]; rcases hv with rfl | rfl <;> rfl) (by rw [hty]; rcases hv with rfl | rfl <;> rfl) hdg (M1 := ps_sI M a k v) rfl rfl (fun b hb => ps_e_sI Y B M v hb) (ps_fv_sI v hr) (fun H1 locs1 h1 h2 => kk _ H1 locs1 h1 h2 hF)
  · rw [if_neg hK] at hF
    cases hF
theorem pw_pR (C : ps_C p s m args meth c cc nL own rt nm D Y B) (hW : ps_W D Y B M H) (hS : va_S (fun q => B ≤ q) s.heap H locs) {ci index a : Nat} {C' : String} {T : u_T} {N : Nat} {ty : Nat → FieldType} (hc : ps_cl ci C' T N ty) {k : Nat} (hk : k < N) (hty : (∃ x, ty k = .object x) ∨ ∃ x, ty k = .array x) (hr : ps_rf ci k = true) (hlink : Cond.fieldLink own index C' (T k).2.1 (T k).2.2.1 ∈ tb_G) (hfin : (T k).2.2.2 = false ∨ (nm = "<init>" ∧ C' = own)) (hdg : decode cc pc = .ok (.putfield index, 3)) {v : Nat} {f : ps_M → Option α} (hF : ps_pR M a ci k v f = some res)
    (kk : ∀ (M : ps_M) (H : Heap) (locs : List Loc), ps_W D Y B M H → va_S (fun q => B ≤ q) s.heap H locs → f M = some res → W p l e R s m args below meth c H locs cells slots Q (F0 m (pc + 3) ls rest)) : W p l e R s m args below meth c H locs cells slots Q (F0 m pc ls (.ref (B + v) :: .ref (B + a) :: rest)) := by
  unfold ps_pR at hF
  by_cases hK : ps_K M a = ci + 1
  · rw [if_pos hK] at hF
    exact pw_put C hW hS hc hk hlink hfin hK (by rcases hty with ⟨x, h⟩ | ⟨x, h⟩ <;> rw [h] <;> rfl) (by rcases hty with ⟨x, h⟩ | ⟨x, h⟩ <;> rw [h] <;> rfl) hdg (M1 := ps_sR M a k (v + 1)) rfl rfl (fun b hb => ps_e_sR Y B M (v + 1) hb) (ps_fv_sR v hr) (fun H1 locs1 h1 h2 => kk _ H1 locs1 h1 h2 hF)
  · rw [if_neg hK] at hF
    cases hF
theorem pw_aI (C : ps_C p s m args meth c cc nL own rt nm D Y B) (hW : ps_W D Y B M H) {a : Nat} {i : Int32} (hdg : decode cc pc = .ok (.iaload, 1)) {f : Int32 → Option α} (hF : ps_aI M a i f = some res)
    (kk : ∀ x : Int32, f x = some res → W p l e R s m args below meth c H locs cells slots Q (F0 m (pc + 1) ls (.int x :: rest))) : W p l e R s m args below meth c H locs cells slots Q (F0 m pc ls (.int i :: .ref (B + a) :: rest)) := by
  obtain ⟨hx, hb, hml, hown, hts, hT, -⟩ := C
  unfold ps_aI at hF
  by_cases hK : ps_K M a = 21 ∧ ¬ (i < 0 ∨ ps_L M a ≤ i.toNatClampNeg)
  · rw [if_pos hK] at hF
    have hat := (ps_at hW (a := a) (by rw [hK.1]; omega)).2
    rw [ps_e_I Y B hK.1] at hat
    exact va_iald hx hb hT.1 (ps_one hat) 0 0 rfl rfl hK.2 hdg (kk _ hF)
  · rw [if_neg hK] at hF
    cases hF
theorem pw_aZ (C : ps_C p s m args meth c cc nL own rt nm D Y B) (hW : ps_W D Y B M H) {a : Nat} {i : Int32} (hdg : decode cc pc = .ok (.baload, 1)) {f : Int32 → Option α} (hF : ps_aZ M a i f = some res)
    (kk : ∀ x : Int32, f x = some res → W p l e R s m args below meth c H locs cells slots Q (F0 m (pc + 1) ls (.int x :: rest))) : W p l e R s m args below meth c H locs cells slots Q (F0 m pc ls (.int i :: .ref (B + a) :: rest)) := by
  obtain ⟨hx, hb, hml, hown, hts, hT, -⟩ := C
  unfold ps_aZ at hF
  by_cases hK : ps_K M a = 22 ∧ ¬ (i < 0 ∨ ps_L M a ≤ i.toNatClampNeg)
  · rw [if_pos hK] at hF
    have hat := (ps_at hW (a := a) (by rw [hK.1]; omega)).2
    rw [ps_e_Z Y B hK.1] at hat
    exact va_zald hx hb hT.1 (ps_one hat) 0 1 rfl rfl hK.2 hdg (kk _ hF)
  · rw [if_neg hK] at hF
    cases hF
theorem pw_aR (C : ps_C p s m args meth c cc nL own rt nm D Y B) (hW : ps_W D Y B M H) {a : Nat} {i : Int32} (hdg : decode cc pc = .ok (.aaload, 1)) {f : Nat → Option α} (hF : ps_aR M a i f = some res)
    (kk : ∀ x : Nat, f x = some res → W p l e R s m args below meth c H locs cells slots Q (F0 m (pc + 1) ls (va_rf (ps_o B x) :: rest))) : W p l e R s m args below meth c H locs cells slots Q (F0 m pc ls (.int i :: .ref (B + a) :: rest)) := by
  obtain ⟨hx, hb, hml, hown, hts, hT, -⟩ := C
  unfold ps_aR at hF
  by_cases hK : ps_K M a = 23 ∧ ¬ (i < 0 ∨ ps_L M a ≤ i.toNatClampNeg)
  · rw [if_pos hK] at hF
    have hat := (ps_at hW (a := a) (by rw [hK.1]; omega)).2
    rw [ps_e_R Y B hK.1] at hat
    exact va_aldq hx hb hT.1 (ps_one hat) 0 2 rfl rfl hK.2 hdg (kk _ hF)
  · rw [if_neg hK] at hF
    cases hF
theorem pw_aL (C : ps_C p s m args meth c cc nL own rt nm D Y B) (hW : ps_W D Y B M H) {a : Nat} (hdg : decode cc pc = .ok (.arraylength, 1)) {f : Int32 → Option α} (hF : ps_aL M a f = some res)
    (kk : ∀ x : Int32, f x = some res → W p l e R s m args below meth c H locs cells slots Q (F0 m (pc + 1) ls (.int x :: rest))) : W p l e R s m args below meth c H locs cells slots Q (F0 m pc ls (.ref (B + a) :: rest)) := by
  obtain ⟨hx, hb, hml, hown, hts, hT, -⟩ := C
  unfold ps_aL at hF
  by_cases hK : ps_K M a = 21 ∨ ps_K M a = 23
  · rw [if_pos hK] at hF
    have hat := (ps_at hW (a := a) (by omega)).2
    rcases hK with h | h
    · rw [ps_e_I Y B h] at hat
      exact va_alen hx hb hT.1 (ps_one hat) 0 0 rfl rfl rfl hdg (kk _ hF)
    · rw [ps_e_R Y B h] at hat
      exact va_alen hx hb hT.1 (ps_one hat) 0 2 rfl rfl rfl hdg (kk _ hF)
  · rw [if_neg hK] at hF
    cases hF
theorem ps_row_sI (i : Nat) (v : Int32) (a : Nat) : ps_I (ps_sI M a i v) a = fun j => if j = i then v else ps_I M a j := by
  funext j
  simp [ps_I, ps_sI, ps_uI]
theorem pw_xI (C : ps_C p s m args meth c cc nL own rt nm D Y B) (hW : ps_W D Y B M H) (hS : va_S (fun q => B ≤ q) s.heap H locs) {a : Nat} {i v : Int32} (hdg : decode cc pc = .ok (.iastore, 1)) {f : ps_M → Option α} (hF : ps_xI M a i v f = some res)
    (kk : ∀ (M : ps_M) (H : Heap) (locs : List Loc), ps_W D Y B M H → va_S (fun q => B ≤ q) s.heap H locs → f M = some res → W p l e R s m args below meth c H locs cells slots Q (F0 m (pc + 1) ls rest)) : W p l e R s m args below meth c H locs cells slots Q (F0 m pc ls (.int v :: .int i :: .ref (B + a) :: rest)) := by
  obtain ⟨hx, hb, hml, hown, hts, hT, -⟩ := C
  unfold ps_xI at hF
  by_cases hK : ps_K M a = 21 ∧ ¬ (i < 0 ∨ ps_L M a ≤ i.toNatClampNeg)
  · rw [if_pos hK] at hF
    have hat := (ps_at hW (a := a) (by rw [hK.1]; omega)).2
    rw [ps_e_I Y B hK.1] at hat
    refine W.iast hx hb hat ((hT.1.2 0 _ rfl).1 (ps_L M a) (fun j => .int (ps_I M a j))) (fun q => by cases q) (by show ¬ (i < 0 ∨ (arrV _ _ _).slots.size ≤ _); rw [arrV_size]; exact hK.2) rfl rfl hdg fun H1 e1 z oq => ?_
    refine kk (ps_sI M a i.toNatClampNeg v) H1 _ (hW.put rfl rfl (fun b hb => ps_e_sI Y B M v hb) z oq ?_) (hS.put z oq (Nat.le_add_right B a)) hF
    rw [ps_e_I Y B (show ps_K (ps_sI M a i.toNatClampNeg v) a = 21 from hK.1)]
    show H1[B + a]? = some (vp_cell _ _)
    rw [e1, ps_row_sI, vp_cell_i, vp_cell_i, arrV_store]
    congr 2
    funext q
    by_cases hq : q = i.toNatClampNeg
    · simp [updV, hq]
    · simp [updV, hq]
  · rw [if_neg hK] at hF
    cases hF
theorem pw_xZ (C : ps_C p s m args meth c cc nL own rt nm D Y B) (hW : ps_W D Y B M H) (hS : va_S (fun q => B ≤ q) s.heap H locs) {a : Nat} {i v : Int32} (hdg : decode cc pc = .ok (.bastore, 1)) {f : ps_M → Option α} (hF : ps_xZ M a i v f = some res)
    (kk : ∀ (M : ps_M) (H : Heap) (locs : List Loc), ps_W D Y B M H → va_S (fun q => B ≤ q) s.heap H locs → f M = some res → W p l e R s m args below meth c H locs cells slots Q (F0 m (pc + 1) ls rest)) : W p l e R s m args below meth c H locs cells slots Q (F0 m pc ls (.int v :: .int i :: .ref (B + a) :: rest)) := by
  obtain ⟨hx, hb, hml, hown, hts, hT, -⟩ := C
  unfold ps_xZ at hF
  by_cases hK : ps_K M a = 22 ∧ ¬ (i < 0 ∨ ps_L M a ≤ i.toNatClampNeg) ∧ (v = 0 ∨ v = 1)
  · rw [if_pos hK] at hF
    obtain ⟨h22, hin, hv⟩ := hK
    have hat := (ps_at hW (a := a) (by rw [h22]; omega)).2
    rw [ps_e_Z Y B h22] at hat
    have hnar : narrow .boolean (.int v) = .int v := by rcases hv with rfl | rfl <;> rfl
    refine W.zast hx hb hat ((hT.1.2 1 _ rfl).1 (ps_L M a) (fun j => .int (ps_I M a j))) (fun q => by cases q) (by show ¬ (i < 0 ∨ (arrV _ _ _).slots.size ≤ _); rw [arrV_size]; exact hin) rfl rfl hdg fun H1 e1 z oq => ?_
    refine kk (ps_sI M a i.toNatClampNeg v) H1 _ (hW.put rfl rfl (fun b hb => ps_e_sI Y B M v hb) z oq ?_) (hS.put z oq (Nat.le_add_right B a)) hF
    rw [ps_e_Z Y B (show ps_K (ps_sI M a i.toNatClampNeg v) a = 22 from h22)]
    show H1[B + a]? = some (vp_cell _ _)
    rw [e1, hnar, ps_row_sI, vp_cell_i, vp_cell_i, arrV_store]
    congr 2
    funext q
    by_cases hq : q = i.toNatClampNeg
    · simp [updV, hq]
    · simp [updV, hq]
  · rw [if_neg hK] at hF
    cases hF
/-! the ends -/
abbrev ps_Qi (D : va_G) (Y : ps_A) (B : Nat) (below : List Frame) (args : Array Value) (s : State) (mc ms : Nat) (q : Int32 × ps_M) : State → Prop := MQ below (va_Qi (fun x (_ : Unit) => x = q.1) (fun _ t => ps_St D Y B q.2 t) (fun q => B ≤ q)) args s mc ms (fun q => B ≤ q)
abbrev ps_Qv (D : va_G) (Y : ps_A) (B : Nat) (below : List Frame) (args : Array Value) (s : State) (mc ms : Nat) (M' : ps_M) : State → Prop := MQ below (va_Qv (fun (_ : Unit) => True) (fun _ t => ps_St D Y B M' t) (fun q => B ≤ q)) args s mc ms (fun q => B ≤ q)
abbrev ps_Qq (D : va_G) (Y : ps_A) (B : Nat) (below : List Frame) (args : Array Value) (s : State) (mc ms : Nat) (q : Nat × ps_M) : State → Prop := MQ below (va_Qq (fun x (_ : Unit) => x = ps_o B q.1) (fun _ t => ps_St D Y B q.2 t) (fun q => B ≤ q)) args s mc ms (fun q => B ≤ q)
theorem pw_iret (C : ps_C p s m args meth c cc nL own (some .int) nm D Y B) (hW : ps_W D Y B M H) (hS : va_S (fun q => B ≤ q) s.heap H locs) {x : Int32} {q : Int32 × ps_M} (hdg : decode cc pc = .ok (.ireturn, 1)) (hF : some (x, M) = some q) : W p l e R s m args below meth c H locs cells slots (ps_Qi D Y B below args s cells slots q) (F0 m pc ls [.int x]) := by
  obtain ⟨hx, hb, hml, hown, hts, hT, hlk, hB, hr, -⟩ := C
  cases hF
  exact W.iret hx hb hr (fun t ht hw => ⟨⟨x, (), rfl, rfl, by rw [ht]; exact hW, hT.warm hw⟩, hS.F ht⟩) hS.2.2 hdg hlk
theorem pw_zret (C : ps_C p s m args meth c cc nL own (some .boolean) nm D Y B) (hW : ps_W D Y B M H) (hS : va_S (fun q => B ≤ q) s.heap H locs) {x : Int32} {q : Int32 × ps_M} (hdg : decode cc pc = .ok (.ireturn, 1)) (hF : ps_z x M = some q) : W p l e R s m args below meth c H locs cells slots (ps_Qi D Y B below args s cells slots q) (F0 m pc ls [.int x]) := by
  obtain ⟨hx, hb, hml, hown, hts, hT, hlk, hB, hr, -⟩ := C
  unfold ps_z at hF
  by_cases hv : x = 0 ∨ x = 1
  · rw [if_pos hv] at hF
    cases hF
    have hnar : narrow .boolean (.int x) = .int x := by rcases hv with rfl | rfl <;> rfl
    exact W.zret hx hb hr hnar (fun t ht hw => ⟨⟨x, (), rfl, rfl, by rw [ht]; exact hW, hT.warm hw⟩, hS.F ht⟩) hS.2.2 hdg hlk
  · rw [if_neg hv] at hF
    cases hF
theorem pw_vret (C : ps_C p s m args meth c cc nL own none nm D Y B) (hW : ps_W D Y B M H) (hS : va_S (fun q => B ≤ q) s.heap H locs) {q : ps_M} (hdg : decode cc pc = .ok (.return_, 1)) (hF : some M = some q) : W p l e R s m args below meth c H locs cells slots (ps_Qv D Y B below args s cells slots q) (F0 m pc ls []) := by
  obtain ⟨hx, hb, hml, hown, hts, hT, hlk, hB, hr, -⟩ := C
  cases hF
  exact W.vret hx hb hr (fun t ht hw => ⟨⟨(), rfl, trivial, by rw [ht]; exact hW, hT.warm hw⟩, hS.F ht⟩) hS.2.2 hdg hlk
theorem pw_qret {rn : String} (C : ps_C p s m args meth c cc nL own (some (.object rn)) nm D Y B) (hW : ps_W D Y B M H) (hS : va_S (fun q => B ≤ q) s.heap H locs) {x : Nat} {q : Nat × ps_M} (hdg : decode cc pc = .ok (.areturn, 1)) (hF : some (x, M) = some q) : W p l e R s m args below meth c H locs cells slots (ps_Qq D Y B below args s cells slots q) (F0 m pc ls [va_rf (ps_o B x)]) := by
  obtain ⟨hx, hb, hml, hown, hts, hT, hlk, hB, hr, -⟩ := C
  cases hF
  exact W.aret hx hb hr (Or.inl ⟨rn, rfl⟩) (va_rf_or _) (fun t ht hw => ⟨⟨ps_o B x, (), rfl, rfl, by rw [ht]; exact hW, hT.warm hw⟩, hS.F ht⟩) hS.2.2 hdg hlk
/-! the calls -/
/-- what is known of a method that is called -/
def ps_mf (y : MethodName) (bytes : ByteArray) (maxL : Nat) (ret : Option FieldType) (n : Nat) : Prop := Cond.code y bytes maxL ret ∈ tb_G ∧ Cond.initialized y.cls ∈ tb_G ∧ (y.cls ≠ "java/lang/invoke/MethodHandle" ∧ y.cls ≠ "java/lang/invoke/VarHandle" ∧ (parseMethodDescriptor y.desc).map (fun d => d.parameters.length) = some n)
abbrev ps_PB (D : va_G) (Y : ps_A) (B : Nat) (M : ps_M) (av : List Value) : Array Value → State → Prop := va_Pc av (fun U => ps_St D Y B M U)
theorem ps_blind (D : va_G) (Y : ps_A) (B : Nat) (M : ps_M) (av : List Value) : FrameBlind (ps_PB D Y B M av) := fun a U g mk q => ⟨q.1, q.2.1, va_K.moved (u := U) (U := U.calling g mk a) (Vm.Alike.refl U.vm) q.2.2.1, q.2.2.2.1.same rfl, va_AO.moved (u := U) (U := U.calling g mk a) (Vm.Alike.refl U.vm) q.2.2.2.2⟩
theorem ps_good {y : MethodName} {bytes : ByteArray} {maxL : Nat} {ret : Option FieldType} (h : Cond.code y bytes maxL ret ∈ tb_G) : GoodIn tb_G (Cond.code y bytes maxL ret :: tb_G) := fun w hw => by
  rcases List.mem_cons.mp hw with rfl | h1
  · exact ⟨h, tb_good _ h⟩
  · exact ⟨h1, tb_good _ h1⟩
/-- a call of an object's own method -/
theorem ps_callV (C : ps_C p s m args meth c cc nL own rt nm D Y B) (hW : ps_W D Y B M H) {ci a index maxL n mc ms : Nat} {y : MethodName} {bytes : ByteArray} {ret : Option FieldType} {T : u_T} {N : Nat} {ty : Nat → FieldType} {rm : Room} {Qc : Array Value → State → Outcome → State → Prop} (hc : ps_cl ci y.cls T N ty) (hm : ps_mf y bytes maxL ret n) (hin : Cond.instanceMethod y ∈ tb_G) (hse : Cond.selects y.cls y y ∈ tb_G) (hl : Cond.methodLink own index y ∈ tb_G) (hR : rm.frames + 1 ≤ R.frames ∧ 8 + (maxL + 11) + rm.locals ≤ R.locals) (hrc : rm.cells = mc) (hrs : rm.slots = ms) {As : List Value} (hM : Met l y (Cond.code y bytes maxL ret :: tb_G) rm (ps_PB D Y B M (.ref (B + a) :: As)) Qc mc ms (fun q => B ≤ q)) (hK : ps_K M a = ci + 1)
    {st0 : List Value} (hn : As.length = n) (hsz : ls.size = nL) (hst : st0 = As.reverse ++ .ref (B + a) :: rest) (hcat : (rest.map fun v => v.category).sum ≤ 8) (hdg : decode cc pc = .ok (.invokevirtual index, 3)) (hf : cells + mc ≤ R.cells ∧ slots + ms ≤ R.slots) :
    va_Run p l e R s m args below meth c H locs cells slots mc ms (F0 m pc ls st0) rest (Qc (Value.ref (B + a) :: As).toArray) (fun q => B ≤ q) := by
  obtain ⟨hx, hb, hml, hown, hts, hT, -⟩ := C
  obtain ⟨hcode, hini, hd⟩ := hm
  obtain ⟨hc, hci, -⟩ := hc
  have hat := (ps_at hW (a := a) (by rw [hK]; omega)).2
  rw [ps_e_obj Y B hK hci] at hat
  exact va_runV (As := As) (rest := rest) ⟨hx, hb, hml, hown, hts⟩ hM ⟨callB_of n hts (ps_good hcode) rfl hrc hrs (hts _ hini) (hts _ hl) hd hR, hts _ hin, hts _ hse⟩
    ⟨ps_blind D Y B M _, va_recv hT.1 (ps_one hat) (ci := ci) (q0 := 0) hc rfl, fun U hU hw => ⟨rfl, by rw [hU]; exact hW, hT.warm hw⟩⟩ rfl hn hsz hst (lv_room hcat) hdg hf
theorem ps_callS (C : ps_C p s m args meth c cc nL own rt nm D Y B) (hW : ps_W D Y B M H) {index maxL n mc ms : Nat} {y : MethodName} {bytes : ByteArray} {ret : Option FieldType} {rm : Room} {Qc : Array Value → State → Outcome → State → Prop} (hm : ps_mf y bytes maxL ret n) (hsta : Cond.static y ∈ tb_G) (hl : Cond.methodLink own index y ∈ tb_G) (hR : rm.frames + 1 ≤ R.frames ∧ 8 + (maxL + 11) + rm.locals ≤ R.locals) (hrc : rm.cells = mc) (hrs : rm.slots = ms) {As : List Value} (hM : Met l y (Cond.code y bytes maxL ret :: tb_G) rm (ps_PB D Y B M As) Qc mc ms (fun q => B ≤ q))
    {st0 : List Value} (hn : As.length = n) (hsz : ls.size = nL) (hst : st0 = As.reverse ++ rest) (hcat : (rest.map fun v => v.category).sum ≤ 8) (hdg : decode cc pc = .ok (.invokestatic index, 3)) (hf : cells + mc ≤ R.cells ∧ slots + ms ≤ R.slots) :
    va_Run p l e R s m args below meth c H locs cells slots mc ms (F0 m pc ls st0) rest (Qc As.toArray) (fun q => B ≤ q) := by
  obtain ⟨hx, hb, hml, hown, hts, hT, -⟩ := C
  obtain ⟨hcode, hini, hd⟩ := hm
  exact va_runS (As := As) (rest := rest) ⟨hx, hb, hml, hown, hts⟩ hM ⟨callB_of n hts (ps_good hcode) rfl hrc hrs (hts _ hini) (hts _ hl) hd hR, hts _ hsta⟩
    ⟨ps_blind D Y B M _, fun U hU hw => ⟨rfl, by rw [hU]; exact hW, hT.warm hw⟩⟩ rfl hn hsz hst (lv_room hcat) hdg hf
/-- behind a call that answers an int -/
theorem ps_backI (hS : va_S (fun q => B ≤ q) s.heap H locs) {st0 : List Value} {mc ms : Nat} {q : Int32 × ps_M} {a : Array Value} (hr : va_Run p l e R s m args below meth c H locs cells slots mc ms (F0 m pc ls st0) rest (va_Qi (fun x (_ : Unit) => x = q.1) (fun _ t => ps_St D Y B q.2 t) (fun q => B ≤ q) a) (fun q => B ≤ q))
    (kk : ∀ (H1 : Heap) (locs1 : List Loc), ps_W D Y B q.2 H1 → va_S (fun q => B ≤ q) s.heap H1 locs1 → W p l e R s m args below meth c H1 locs1 (cells + mc) (slots + ms) Q (F0 m (pc + 3) ls (.int q.1 :: rest))) : W p l e R s m args below meth c H locs cells slots Q (F0 m pc ls st0) :=
  va_calli hr hS (fun _ _ h => h) (fun _ h => h) (fun r u t H1 locs1 ht hvm hp hB hz hk hS1 => by
    subst hp
    exact kk H1 locs1 (by rw [← ht]; exact hB.1) hS1)
theorem ps_backV (hS : va_S (fun q => B ≤ q) s.heap H locs) {st0 : List Value} {mc ms : Nat} {M' : ps_M} {a : Array Value} (hr : va_Run p l e R s m args below meth c H locs cells slots mc ms (F0 m pc ls st0) rest (va_Qv (fun (_ : Unit) => True) (fun _ t => ps_St D Y B M' t) (fun q => B ≤ q) a) (fun q => B ≤ q))
    (kk : ∀ (H1 : Heap) (locs1 : List Loc), ps_W D Y B M' H1 → va_S (fun q => B ≤ q) s.heap H1 locs1 → W p l e R s m args below meth c H1 locs1 (cells + mc) (slots + ms) Q (F0 m (pc + 3) ls rest)) : W p l e R s m args below meth c H locs cells slots Q (F0 m pc ls st0) :=
  va_callv hr hS (fun _ _ h => h) (fun _ h => h) (fun u t H1 locs1 ht hvm hp hB hz hk hS1 => kk H1 locs1 (by rw [← ht]; exact hB.1) hS1)
theorem ps_backQ (hS : va_S (fun q => B ≤ q) s.heap H locs) {st0 : List Value} {mc ms : Nat} {q : Nat × ps_M} {a : Array Value} (hr : va_Run p l e R s m args below meth c H locs cells slots mc ms (F0 m pc ls st0) rest (va_Qq (fun x (_ : Unit) => x = ps_o B q.1) (fun _ t => ps_St D Y B q.2 t) (fun q => B ≤ q) a) (fun q => B ≤ q))
    (kk : ∀ (H1 : Heap) (locs1 : List Loc), ps_W D Y B q.2 H1 → va_S (fun q => B ≤ q) s.heap H1 locs1 → W p l e R s m args below meth c H1 locs1 (cells + mc) (slots + ms) Q (F0 m (pc + 3) ls (va_rf (ps_o B q.1) :: rest))) : W p l e R s m args below meth c H locs cells slots Q (F0 m pc ls st0) :=
  va_callq hr hS (fun _ _ h => h) (fun _ h => h) (fun r u t H1 locs1 ht hvm hp hB hz hk hS1 => by
    subst hp
    exact kk H1 locs1 (by rw [← ht]; exact hB.1) hS1)
theorem ps_b2_some {β : Type} {X : Option (β × ps_M)} {f : β → ps_M → Option α} (h : ps_b2 X f = some res) : ∃ q, X = some q ∧ f q.1 q.2 = some res := by
  cases X with
  | none => cases h
  | some q => exact ⟨q, rfl, h⟩
theorem ps_b1_some {X : Option ps_M} {f : ps_M → Option α} (h : ps_b1 X f = some res) : ∃ q, X = some q ∧ f q = some res := by
  cases X with
  | none => cases h
  | some q => exact ⟨q, rfl, h⟩
theorem ps_ck_some {X : Option α} {a ci : Nat} (h : ps_ck M a ci X = some res) : ps_K M a = ci + 1 ∧ X = some res := by
  unfold ps_ck at h
  by_cases hK : ps_K M a = ci + 1
  · rw [if_pos hK] at h; exact ⟨hK, h⟩
  · rw [if_neg hK] at h; cases h
theorem ps_dv_some {y : Int32} {X : Option α} (h : ps_dv y X = some res) : ¬ y = 0 ∧ X = some res := by
  unfold ps_dv at h
  by_cases hy : y = 0
  · rw [if_pos hy] at h; cases h
  · rw [if_neg hy] at h; exact ⟨hy, h⟩
theorem ps_dvl_some {y : Int64} {X : Option α} (h : ps_dvl y X = some res) : ¬ y = 0 ∧ X = some res := by
  unfold ps_dvl at h
  by_cases hy : y = 0
  · rw [if_pos hy] at h; cases h
  · rw [if_neg hy] at h; exact ⟨hy, h⟩
end
/-- a method's contract out of its walk -/
theorem pm_of {l : Launch} {D : va_G} {Y : ps_A} {B : Nat} {M : ps_M} {y : MethodName} {cc : ByteArray} {nL : Nat} {ret : Option FieldType} {rm : Room} {Qc : Array Value → State → Outcome → State → Prop} {mc ms : Nat} {av : List Value} (hy : plainName y.cls = true) (hlen : (lg_sl av).length ≤ nL)
    (body : ∀ (p : Program) (e : Env) (s : State) (m : MethodId) (args : Array Value) (below : List Frame) (meth : Method) (c : Code), ps_C p s m args meth c cc nL y.cls ret y.name D Y B → ps_W D Y B M s.heap → va_S (fun q => B ≤ q) s.heap s.heap [] → ∀ ls : Array Slot, lv_has ls nL (lv_args 0 av) →
      W p l e rm s m args below meth c s.heap [] 0 0 (MQ below Qc args s mc ms (fun q => B ≤ q)) (F0 m 0 ls [])) :
    Met l y (Cond.code y cc nL ret :: tb_G) rm (ps_PB D Y B M av) Qc mc ms (fun q => B ≤ q) := by
  refine Met.ofW (cc := cc) (maxL := nL) (ret := ret) hy rfl ?_
  intro p e s m args below meth c s₁ Bd hml hv
  obtain ⟨rfl, hW, hT⟩ := hv
  have hts := atoms_spec (ws := Cond.code y cc nL ret :: tb_G) Bd.pre
  have hown : s.vm.findClass y.cls = some m.cls := findClass_of_methodNamed Bd.named
  have hin : meth.name = y.name := (name_of_methodNamed Bd.named Bd.method).1
  have hl := lv_entry av hlen
  rw [lg_entry_eq]
  exact body p e s m av.toArray below meth c ⟨Bd.exec, Bd.bytes, hml, hown, fun w hw => hts w (List.mem_cons_of_mem _ hw), hT, Bd.notSynchronized, by rw [hW.1]; exact Nat.le_add_right _ _, Bd.returns, hin⟩ hW va_S.rf _ hl
end
