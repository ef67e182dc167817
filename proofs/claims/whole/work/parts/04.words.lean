/-- the tables' words that stay -/
def tb_G : List Cond := lw_tbl.filter goodWord
theorem tb_in {w : Cond} (h : w ∈ lw_tbl) (hg : goodWord w = true) : w ∈ tb_G := List.mem_filter.mpr ⟨h, hg⟩
theorem tb_good : ∀ w ∈ tb_G, (w.onTables && w.keeps) = true ∨ ∃ ty, w = .arrayClass ty := fun w h => good_of_word (List.mem_filter.mp h).2
theorem tb_sub : ∀ w ∈ tb_G, w ∈ lw_tbl := fun w h => (List.mem_filter.mp h).1
theorem tq_0 : (.selects "PullSaw$Reader" ⟨"PullSaw$Reader", "skipBlanks", "()V"⟩ ⟨"PullSaw$Reader", "skipBlanks", "()V"⟩ : Cond) ∈ tb_G := tb_in (List.mem_of_getElem? (i := 0) (by decide +kernel)) rfl
theorem tq_1 : (.selects "PullSaw$Reader" ⟨"PullSaw$Reader", "readClause", "()V"⟩ ⟨"PullSaw$Reader", "readClause", "()V"⟩ : Cond) ∈ tb_G := tb_in (List.mem_of_getElem? (i := 1) (by decide +kernel)) rfl
theorem tq_2 : (.selects "PullSaw$Reader" ⟨"PullSaw$Reader", "faultOfWord", "(I)I"⟩ ⟨"PullSaw$Reader", "faultOfWord", "(I)I"⟩ : Cond) ∈ tb_G := tb_in (List.mem_of_getElem? (i := 2) (by decide +kernel)) rfl
theorem tq_3 : (.selects "PullSaw$Reader" ⟨"PullSaw$Reader", "markFault", "(II)V"⟩ ⟨"PullSaw$Reader", "markFault", "(II)V"⟩ : Cond) ∈ tb_G := tb_in (List.mem_of_getElem? (i := 3) (by decide +kernel)) rfl
theorem tq_4 : (.selects "PullSaw$Reader" ⟨"PullSaw$Reader", "readLayers", "()V"⟩ ⟨"PullSaw$Reader", "readLayers", "()V"⟩ : Cond) ∈ tb_G := tb_in (List.mem_of_getElem? (i := 4) (by decide +kernel)) rfl
theorem tq_5 : (.selects "PullSaw$Reader" ⟨"PullSaw$Reader", "readNumber", "(II)I"⟩ ⟨"PullSaw$Reader", "readNumber", "(II)I"⟩ : Cond) ∈ tb_G := tb_in (List.mem_of_getElem? (i := 5) (by decide +kernel)) rfl
theorem tq_6 : (.selects "PullSaw$Reader" ⟨"PullSaw$Reader", "readEnd", "()V"⟩ ⟨"PullSaw$Reader", "readEnd", "()V"⟩ : Cond) ∈ tb_G := tb_in (List.mem_of_getElem? (i := 6) (by decide +kernel)) rfl
theorem tq_7 : (.selects "PullSaw$Reader" ⟨"PullSaw$Reader", "readPerson", "()V"⟩ ⟨"PullSaw$Reader", "readPerson", "()V"⟩ : Cond) ∈ tb_G := tb_in (List.mem_of_getElem? (i := 7) (by decide +kernel)) rfl
theorem tq_8 : (.selects "PullSaw$Reader" ⟨"PullSaw$Reader", "readSaw", "()V"⟩ ⟨"PullSaw$Reader", "readSaw", "()V"⟩ : Cond) ∈ tb_G := tb_in (List.mem_of_getElem? (i := 8) (by decide +kernel)) rfl
theorem tq_9 : (.selects "PullSaw" ⟨"PullSaw", "refusalOfTwo", "(II)I"⟩ ⟨"PullSaw", "refusalOfTwo", "(II)I"⟩ : Cond) ∈ tb_G := tb_in (List.mem_of_getElem? (i := 9) (by decide +kernel)) rfl
theorem tq_10 : (.selects "PullSaw" ⟨"PullSaw", "refusalOfSawing", "(I)I"⟩ ⟨"PullSaw", "refusalOfSawing", "(I)I"⟩ : Cond) ∈ tb_G := tb_in (List.mem_of_getElem? (i := 10) (by decide +kernel)) rfl
theorem tq_11 : (.selects "PullSaw$Past" ⟨"PullSaw$Past", "placeAt", "(I)LPullSaw$Work;"⟩ ⟨"PullSaw$Past", "placeAt", "(I)LPullSaw$Work;"⟩ : Cond) ∈ tb_G := tb_in (List.mem_of_getElem? (i := 11) (by decide +kernel)) rfl
theorem tq_12 : (.selects "PullSaw$Work" ⟨"PullSaw$Work", "pullOf", "(LPullSaw$Yard;II)I"⟩ ⟨"PullSaw$Work", "pullOf", "(LPullSaw$Yard;II)I"⟩ : Cond) ∈ tb_G := tb_in (List.mem_of_getElem? (i := 12) (by decide +kernel)) rfl
theorem tq_13 : (.selects "PullSaw$Work" ⟨"PullSaw$Work", "cutBy", "(LPullSaw$Yard;I)I"⟩ ⟨"PullSaw$Work", "cutBy", "(LPullSaw$Yard;I)I"⟩ : Cond) ∈ tb_G := tb_in (List.mem_of_getElem? (i := 13) (by decide +kernel)) rfl
theorem tq_14 : (.selects "PullSaw$Work" ⟨"PullSaw$Work", "tire", "(II)V"⟩ ⟨"PullSaw$Work", "tire", "(II)V"⟩ : Cond) ∈ tb_G := tb_in (List.mem_of_getElem? (i := 14) (by decide +kernel)) rfl
theorem tq_15 : (.selects "PullSaw$Work" ⟨"PullSaw$Work", "feel", "(III)V"⟩ ⟨"PullSaw$Work", "feel", "(III)V"⟩ : Cond) ∈ tb_G := tb_in (List.mem_of_getElem? (i := 15) (by decide +kernel)) rfl
theorem tq_16 : (.selects "PullSaw" ⟨"PullSaw", "changeRow", "([III)I"⟩ ⟨"PullSaw", "changeRow", "([III)I"⟩ : Cond) ∈ tb_G := tb_in (List.mem_of_getElem? (i := 16) (by decide +kernel)) rfl
theorem tq_17 : (.selects "PullSaw" ⟨"PullSaw", "driftOnce", "()V"⟩ ⟨"PullSaw", "driftOnce", "()V"⟩ : Cond) ∈ tb_G := tb_in (List.mem_of_getElem? (i := 17) (by decide +kernel)) rfl
theorem tq_18 : (.selects "PullSaw" ⟨"PullSaw", "drawEighth", "()I"⟩ ⟨"PullSaw", "drawEighth", "()I"⟩ : Cond) ∈ tb_G := tb_in (List.mem_of_getElem? (i := 18) (by decide +kernel)) rfl
theorem tq_19 : (.selects "PullSaw$Trial" ⟨"PullSaw$Trial", "strokesThrough", "(LPullSaw$Yard;LPullSaw$Work;I)I"⟩ ⟨"PullSaw$Trial", "strokesThrough", "(LPullSaw$Yard;LPullSaw$Work;I)I"⟩ : Cond) ∈ tb_G := tb_in (List.mem_of_getElem? (i := 19) (by decide +kernel)) rfl
theorem tq_20 : (.selects "PullSaw$Trial" ⟨"PullSaw$Trial", "isNoFresher", "(LPullSaw$Work;)Z"⟩ ⟨"PullSaw$Trial", "isNoFresher", "(LPullSaw$Work;)Z"⟩ : Cond) ∈ tb_G := tb_in (List.mem_of_getElem? (i := 20) (by decide +kernel)) rfl
theorem tq_21 : (.selects "PullSaw$Trial" ⟨"PullSaw$Trial", "rememberPair", "(LPullSaw$Work;)V"⟩ ⟨"PullSaw$Trial", "rememberPair", "(LPullSaw$Work;)V"⟩ : Cond) ∈ tb_G := tb_in (List.mem_of_getElem? (i := 21) (by decide +kernel)) rfl
theorem tq_22 : (.selects "PullSaw$Trial" ⟨"PullSaw$Trial", "begin", "(LPullSaw$Yard;LPullSaw$Work;II)V"⟩ ⟨"PullSaw$Trial", "begin", "(LPullSaw$Yard;LPullSaw$Work;II)V"⟩ : Cond) ∈ tb_G := tb_in (List.mem_of_getElem? (i := 22) (by decide +kernel)) rfl
theorem tq_23 : (.selects "PullSaw$Balance" ⟨"PullSaw$Balance", "stepBack", "()V"⟩ ⟨"PullSaw$Balance", "stepBack", "()V"⟩ : Cond) ∈ tb_G := tb_in (List.mem_of_getElem? (i := 23) (by decide +kernel)) rfl
theorem tq_24 : (.selects "PullSaw$Balance" ⟨"PullSaw$Balance", "weighAhead", "(II)V"⟩ ⟨"PullSaw$Balance", "weighAhead", "(II)V"⟩ : Cond) ∈ tb_G := tb_in (List.mem_of_getElem? (i := 24) (by decide +kernel)) rfl
theorem tq_25 : (.selects "PullSaw$Balance" ⟨"PullSaw$Balance", "costOfStay", "(II)I"⟩ ⟨"PullSaw$Balance", "costOfStay", "(II)I"⟩ : Cond) ∈ tb_G := tb_in (List.mem_of_getElem? (i := 25) (by decide +kernel)) rfl
theorem tq_26 : (.selects "PullSaw$Balance" ⟨"PullSaw$Balance", "costBehind", "(II)I"⟩ ⟨"PullSaw$Balance", "costBehind", "(II)I"⟩ : Cond) ∈ tb_G := tb_in (List.mem_of_getElem? (i := 26) (by decide +kernel)) rfl
theorem tq_27 : (.selects "PullSaw$Balance" ⟨"PullSaw$Balance", "costOfChange", "(II)I"⟩ ⟨"PullSaw$Balance", "costOfChange", "(II)I"⟩ : Cond) ∈ tb_G := tb_in (List.mem_of_getElem? (i := 27) (by decide +kernel)) rfl
theorem tq_28 : (.selects "PullSaw$Trial" ⟨"PullSaw$Trial", "depthBehind", "(LPullSaw$Yard;LPullSaw$Work;II)I"⟩ ⟨"PullSaw$Trial", "depthBehind", "(LPullSaw$Yard;LPullSaw$Work;II)I"⟩ : Cond) ∈ tb_G := tb_in (List.mem_of_getElem? (i := 28) (by decide +kernel)) rfl
theorem tq_29 : (.selects "PullSaw$Trial" ⟨"PullSaw$Trial", "firstWrong", "(LPullSaw$Yard;LPullSaw$Sheet;)I"⟩ ⟨"PullSaw$Trial", "firstWrong", "(LPullSaw$Yard;LPullSaw$Sheet;)I"⟩ : Cond) ∈ tb_G := tb_in (List.mem_of_getElem? (i := 29) (by decide +kernel)) rfl
theorem tq_30 : (.selects "PullSaw$Trial" ⟨"PullSaw$Trial", "fits", "(LPullSaw$Yard;LPullSaw$Work;IILPullSaw$Sheet;)Z"⟩ ⟨"PullSaw$Trial", "fits", "(LPullSaw$Yard;LPullSaw$Work;IILPullSaw$Sheet;)Z"⟩ : Cond) ∈ tb_G := tb_in (List.mem_of_getElem? (i := 30) (by decide +kernel)) rfl
theorem tq_31 : (.selects "PullSawModel" ⟨"PullSawModel", "here", "()I"⟩ ⟨"PullSawModel", "here", "()I"⟩ : Cond) ∈ tb_G := tb_in (List.mem_of_getElem? (i := 31) (by decide +kernel)) rfl
theorem tq_32 : (.selects "PullSawModel" ⟨"PullSawModel", "takeClause", "()V"⟩ ⟨"PullSawModel", "takeClause", "()V"⟩ : Cond) ∈ tb_G := tb_in (List.mem_of_getElem? (i := 32) (by decide +kernel)) rfl
theorem tq_33 : (.selects "PullSawModel" ⟨"PullSawModel", "want", "(ZII)Z"⟩ ⟨"PullSawModel", "want", "(ZII)Z"⟩ : Cond) ∈ tb_G := tb_in (List.mem_of_getElem? (i := 33) (by decide +kernel)) rfl
theorem tq_34 : (.selects "PullSawModel" ⟨"PullSawModel", "takeLog", "()V"⟩ ⟨"PullSawModel", "takeLog", "()V"⟩ : Cond) ∈ tb_G := tb_in (List.mem_of_getElem? (i := 34) (by decide +kernel)) rfl
theorem tq_35 : (.selects "PullSawModel" ⟨"PullSawModel", "takeNumber", "(II)I"⟩ ⟨"PullSawModel", "takeNumber", "(II)I"⟩ : Cond) ∈ tb_G := tb_in (List.mem_of_getElem? (i := 35) (by decide +kernel)) rfl
theorem tq_36 : (.selects "PullSawModel" ⟨"PullSawModel", "takePerson", "()V"⟩ ⟨"PullSawModel", "takePerson", "()V"⟩ : Cond) ∈ tb_G := tb_in (List.mem_of_getElem? (i := 36) (by decide +kernel)) rfl
theorem tq_37 : (.selects "PullSawModel" ⟨"PullSawModel", "take", "()V"⟩ ⟨"PullSawModel", "take", "()V"⟩ : Cond) ∈ tb_G := tb_in (List.mem_of_getElem? (i := 37) (by decide +kernel)) rfl
theorem tq_38 : (.selects "PullSawModel" ⟨"PullSawModel", "begin", "(III)V"⟩ ⟨"PullSawModel", "begin", "(III)V"⟩ : Cond) ∈ tb_G := tb_in (List.mem_of_getElem? (i := 38) (by decide +kernel)) rfl
theorem tq_39 : (.selects "PullSawModel" ⟨"PullSawModel", "isThrough", "(I)Z"⟩ ⟨"PullSawModel", "isThrough", "(I)Z"⟩ : Cond) ∈ tb_G := tb_in (List.mem_of_getElem? (i := 39) (by decide +kernel)) rfl
theorem tq_40 : (.selects "PullSawModel" ⟨"PullSawModel", "isPerson", "(I)Z"⟩ ⟨"PullSawModel", "isPerson", "(I)Z"⟩ : Cond) ∈ tb_G := tb_in (List.mem_of_getElem? (i := 40) (by decide +kernel)) rfl
theorem tq_41 : (.selects "PullSawModel" ⟨"PullSawModel", "isPair", "()Z"⟩ ⟨"PullSawModel", "isPair", "()Z"⟩ : Cond) ∈ tb_G := tb_in (List.mem_of_getElem? (i := 41) (by decide +kernel)) rfl
theorem tq_42 : (.selects "PullSawModel" ⟨"PullSawModel", "remember", "()V"⟩ ⟨"PullSawModel", "remember", "()V"⟩ : Cond) ∈ tb_G := tb_in (List.mem_of_getElem? (i := 42) (by decide +kernel)) rfl
theorem tq_43 : (.selects "PullSawModel" ⟨"PullSawModel", "copy", "(II)V"⟩ ⟨"PullSawModel", "copy", "(II)V"⟩ : Cond) ∈ tb_G := tb_in (List.mem_of_getElem? (i := 43) (by decide +kernel)) rfl
theorem tq_44 : (.selects "PullSawModel" ⟨"PullSawModel", "pull", "(I)I"⟩ ⟨"PullSawModel", "pull", "(I)I"⟩ : Cond) ∈ tb_G := tb_in (List.mem_of_getElem? (i := 44) (by decide +kernel)) rfl
theorem tq_45 : (.selects "PullSawModel" ⟨"PullSawModel", "pullOf", "(III)I"⟩ ⟨"PullSawModel", "pullOf", "(III)I"⟩ : Cond) ∈ tb_G := tb_in (List.mem_of_getElem? (i := 45) (by decide +kernel)) rfl
theorem tq_46 : (.selects "PullSawModel" ⟨"PullSawModel", "tire", "(II)V"⟩ ⟨"PullSawModel", "tire", "(II)V"⟩ : Cond) ∈ tb_G := tb_in (List.mem_of_getElem? (i := 46) (by decide +kernel)) rfl
theorem tq_47 : (.selects "PullSawModel" ⟨"PullSawModel", "feel", "(III)V"⟩ ⟨"PullSawModel", "feel", "(III)V"⟩ : Cond) ∈ tb_G := tb_in (List.mem_of_getElem? (i := 47) (by decide +kernel)) rfl
theorem tq_48 : (.selects "PullSawModel" ⟨"PullSawModel", "relax", "(II)V"⟩ ⟨"PullSawModel", "relax", "(II)V"⟩ : Cond) ∈ tb_G := tb_in (List.mem_of_getElem? (i := 48) (by decide +kernel)) rfl
theorem tq_49 : (.selects "PullSawModel" ⟨"PullSawModel", "become", "(II)I"⟩ ⟨"PullSawModel", "become", "(II)I"⟩ : Cond) ∈ tb_G := tb_in (List.mem_of_getElem? (i := 49) (by decide +kernel)) rfl
theorem tq_50 : (.selects "PullSawModel" ⟨"PullSawModel", "draw", "(I)I"⟩ ⟨"PullSawModel", "draw", "(I)I"⟩ : Cond) ∈ tb_G := tb_in (List.mem_of_getElem? (i := 50) (by decide +kernel)) rfl
theorem tq_51 : (.selects "PullSawModel" ⟨"PullSawModel", "goOnNow", "()I"⟩ ⟨"PullSawModel", "goOnNow", "()I"⟩ : Cond) ∈ tb_G := tb_in (List.mem_of_getElem? (i := 51) (by decide +kernel)) rfl
theorem tq_52 : (.selects "PullSawModel" ⟨"PullSawModel", "goOn", "(I)I"⟩ ⟨"PullSawModel", "goOn", "(I)I"⟩ : Cond) ∈ tb_G := tb_in (List.mem_of_getElem? (i := 52) (by decide +kernel)) rfl
theorem tq_53 : (.selects "PullSawModel" ⟨"PullSawModel", "refusedTwo", "(II)I"⟩ ⟨"PullSawModel", "refusedTwo", "(II)I"⟩ : Cond) ∈ tb_G := tb_in (List.mem_of_getElem? (i := 53) (by decide +kernel)) rfl
theorem tq_54 : (.selects "PullSawModel" ⟨"PullSawModel", "freshOf", "(II)I"⟩ ⟨"PullSawModel", "freshOf", "(II)I"⟩ : Cond) ∈ tb_G := tb_in (List.mem_of_getElem? (i := 54) (by decide +kernel)) rfl
theorem tq_55 : (.selects "PullSawModel" ⟨"PullSawModel", "beginFresh", "(II)V"⟩ ⟨"PullSawModel", "beginFresh", "(II)V"⟩ : Cond) ∈ tb_G := tb_in (List.mem_of_getElem? (i := 55) (by decide +kernel)) rfl
theorem tq_56 : (.selects "PullSawModel" ⟨"PullSawModel", "quarrels", "(I)Z"⟩ ⟨"PullSawModel", "quarrels", "(I)Z"⟩ : Cond) ∈ tb_G := tb_in (List.mem_of_getElem? (i := 56) (by decide +kernel)) rfl
theorem tq_57 : (.selects "PullSawModel" ⟨"PullSawModel", "lay", "(III)V"⟩ ⟨"PullSawModel", "lay", "(III)V"⟩ : Cond) ∈ tb_G := tb_in (List.mem_of_getElem? (i := 57) (by decide +kernel)) rfl
theorem tq_58 : (.selects "PullSawModel" ⟨"PullSawModel", "depthBy", "(II)I"⟩ ⟨"PullSawModel", "depthBy", "(II)I"⟩ : Cond) ∈ tb_G := tb_in (List.mem_of_getElem? (i := 58) (by decide +kernel)) rfl
theorem tq_59 : (.selects "PullSawModel" ⟨"PullSawModel", "isAsSeen", "()Z"⟩ ⟨"PullSawModel", "isAsSeen", "()Z"⟩ : Cond) ∈ tb_G := tb_in (List.mem_of_getElem? (i := 59) (by decide +kernel)) rfl
theorem tq_60 : (.initialized "PullSawLaw" : Cond) ∈ tb_G := tb_in (List.mem_of_getElem? (i := 60) (by decide +kernel)) rfl
theorem tq_61 : (.initialized "PullSaw" : Cond) ∈ tb_G := tb_in (List.mem_of_getElem? (i := 61) (by decide +kernel)) rfl
theorem tq_62 : (.initialized "PullSaw$Yard" : Cond) ∈ tb_G := tb_in (List.mem_of_getElem? (i := 62) (by decide +kernel)) rfl
theorem tq_63 : (.initialized "PullSaw$Reader" : Cond) ∈ tb_G := tb_in (List.mem_of_getElem? (i := 63) (by decide +kernel)) rfl
theorem tq_64 : (.initialized "PullSaw$Sheet" : Cond) ∈ tb_G := tb_in (List.mem_of_getElem? (i := 64) (by decide +kernel)) rfl
theorem tq_65 : (.initialized "java/lang/Math" : Cond) ∈ tb_G := tb_in (List.mem_of_getElem? (i := 65) (by decide +kernel)) rfl
theorem tq_66 : (.initialized "PullSaw$Work" : Cond) ∈ tb_G := tb_in (List.mem_of_getElem? (i := 66) (by decide +kernel)) rfl
theorem tq_67 : (.initialized "PullSaw$Past" : Cond) ∈ tb_G := tb_in (List.mem_of_getElem? (i := 67) (by decide +kernel)) rfl
theorem tq_68 : (.initialized "PullSaw$Trial" : Cond) ∈ tb_G := tb_in (List.mem_of_getElem? (i := 68) (by decide +kernel)) rfl
theorem tq_69 : (.initialized "PullSaw$Balance" : Cond) ∈ tb_G := tb_in (List.mem_of_getElem? (i := 69) (by decide +kernel)) rfl
theorem tq_70 : (.initialized "PullSaw$Image" : Cond) ∈ tb_G := tb_in (List.mem_of_getElem? (i := 70) (by decide +kernel)) rfl
theorem tq_71 : (.initialized "PullSawModel" : Cond) ∈ tb_G := tb_in (List.mem_of_getElem? (i := 71) (by decide +kernel)) rfl
theorem tq_72 : (.initialized "PullSaw$Row" : Cond) ∈ tb_G := tb_in (List.mem_of_getElem? (i := 72) (by decide +kernel)) rfl
theorem tq_73 : (.initialized "java/lang/Integer" : Cond) ∈ tb_G := tb_in (List.mem_of_getElem? (i := 73) (by decide +kernel)) rfl
theorem tq_74 : (.classLink "PullSawLaw" 7 "PullSaw" : Cond) ∈ tb_G := tb_in (List.mem_of_getElem? (i := 74) (by decide +kernel)) rfl
theorem tq_75 : (.instantiable "PullSaw" 11 : Cond) ∈ tb_G := tb_in (List.mem_of_getElem? (i := 75) (by decide +kernel)) rfl
theorem tq_76 : (.methodLink "PullSawLaw" 9 ⟨"PullSaw", "<init>", "()V"⟩ : Cond) ∈ tb_G := tb_in (List.mem_of_getElem? (i := 76) (by decide +kernel)) rfl
theorem tq_77 : (.instanceMethod ⟨"PullSaw", "<init>", "()V"⟩ : Cond) ∈ tb_G := tb_in (List.mem_of_getElem? (i := 77) (by decide +kernel)) rfl
set_option maxRecDepth 100000 in
theorem tq_78 : (.code ⟨"PullSaw", "<init>", "()V"⟩ prog_1_method_1_code 1 none : Cond) ∈ tb_G := tb_in (List.mem_of_getElem? (i := 78) rfl) rfl
theorem tq_79 : (.methodLink "PullSaw" 1 ⟨"java/lang/Object", "<init>", "()V"⟩ : Cond) ∈ tb_G := tb_in (List.mem_of_getElem? (i := 79) (by decide +kernel)) rfl
theorem tq_80 : (.instanceMethod ⟨"java/lang/Object", "<init>", "()V"⟩ : Cond) ∈ tb_G := tb_in (List.mem_of_getElem? (i := 80) (by decide +kernel)) rfl
set_option maxRecDepth 100000 in
theorem tq_81 : (.code ⟨"java/lang/Object", "<init>", "()V"⟩ object_method_1_code 1 none : Cond) ∈ tb_G := tb_in (List.mem_of_getElem? (i := 81) rfl) rfl
theorem tq_82 : (.classLink "PullSaw" 7 "PullSaw$Yard" : Cond) ∈ tb_G := tb_in (List.mem_of_getElem? (i := 82) (by decide +kernel)) rfl
theorem tq_83 : (.instantiable "PullSaw$Yard" 12 : Cond) ∈ tb_G := tb_in (List.mem_of_getElem? (i := 83) (by decide +kernel)) rfl
theorem tq_85 : (.instanceMethod ⟨"PullSaw$Yard", "<init>", "()V"⟩ : Cond) ∈ tb_G := tb_in (List.mem_of_getElem? (i := 85) (by decide +kernel)) rfl
set_option maxRecDepth 100000 in
theorem tq_86 : (.code ⟨"PullSaw$Yard", "<init>", "()V"⟩ prog_10_method_1_code 1 none : Cond) ∈ tb_G := tb_in (List.mem_of_getElem? (i := 86) rfl) rfl
theorem tq_87 : (.methodLink "PullSaw$Yard" 3 ⟨"java/lang/Object", "<init>", "()V"⟩ : Cond) ∈ tb_G := tb_in (List.mem_of_getElem? (i := 87) (by decide +kernel)) rfl
theorem tq_88 : (.fieldLink "PullSaw$Yard" 43 "PullSaw$Yard" "layers" "I" : Cond) ∈ tb_G := tb_in (List.mem_of_getElem? (i := 88) (by decide +kernel)) rfl
theorem tq_89 : (.fieldLink "PullSaw" 110 "PullSaw$Yard" "layers" "I" : Cond) ∈ tb_G := tb_in (List.mem_of_getElem? (i := 89) (by decide +kernel)) rfl
theorem tq_90 : (.fieldLink "PullSaw$Reader" 87 "PullSaw$Yard" "layers" "I" : Cond) ∈ tb_G := tb_in (List.mem_of_getElem? (i := 90) (by decide +kernel)) rfl
theorem tq_91 : (.fieldLink "PullSaw$Work" 76 "PullSaw$Yard" "layers" "I" : Cond) ∈ tb_G := tb_in (List.mem_of_getElem? (i := 91) (by decide +kernel)) rfl
theorem tq_92 : (.fieldLink "PullSaw$Yard" 46 "PullSaw$Yard" "people" "I" : Cond) ∈ tb_G := tb_in (List.mem_of_getElem? (i := 92) (by decide +kernel)) rfl
theorem tq_93 : (.fieldLink "PullSaw$Reader" 90 "PullSaw$Yard" "people" "I" : Cond) ∈ tb_G := tb_in (List.mem_of_getElem? (i := 93) (by decide +kernel)) rfl
theorem tq_94 : (.fieldLink "PullSaw" 116 "PullSaw$Yard" "people" "I" : Cond) ∈ tb_G := tb_in (List.mem_of_getElem? (i := 94) (by decide +kernel)) rfl
theorem tq_95 : (.fieldLink "PullSaw$Trial" 119 "PullSaw$Yard" "people" "I" : Cond) ∈ tb_G := tb_in (List.mem_of_getElem? (i := 95) (by decide +kernel)) rfl
theorem tq_96 : (.fieldLink "PullSaw$Yard" 9 "PullSaw$Yard" "teeth" "I" : Cond) ∈ tb_G := tb_in (List.mem_of_getElem? (i := 96) (by decide +kernel)) rfl
theorem tq_97 : (.fieldLink "PullSaw$Work" 63 "PullSaw$Yard" "teeth" "I" : Cond) ∈ tb_G := tb_in (List.mem_of_getElem? (i := 97) (by decide +kernel)) rfl
theorem tq_98 : (.fieldLink "PullSaw$Reader" 118 "PullSaw$Yard" "teeth" "I" : Cond) ∈ tb_G := tb_in (List.mem_of_getElem? (i := 98) (by decide +kernel)) rfl
theorem tq_99 : (.fieldLink "PullSaw$Yard" 15 "PullSaw$Yard" "limit" "I" : Cond) ∈ tb_G := tb_in (List.mem_of_getElem? (i := 99) (by decide +kernel)) rfl
theorem tq_100 : (.fieldLink "PullSaw" 146 "PullSaw$Yard" "limit" "I" : Cond) ∈ tb_G := tb_in (List.mem_of_getElem? (i := 100) (by decide +kernel)) rfl
theorem tq_101 : (.fieldLink "PullSaw$Reader" 121 "PullSaw$Yard" "limit" "I" : Cond) ∈ tb_G := tb_in (List.mem_of_getElem? (i := 101) (by decide +kernel)) rfl
theorem tq_102 : (.fieldLink "PullSaw$Work" 134 "PullSaw$Yard" "limit" "I" : Cond) ∈ tb_G := tb_in (List.mem_of_getElem? (i := 102) (by decide +kernel)) rfl
theorem tq_103 : (.fieldLink "PullSaw$Yard" 18 "PullSaw$Yard" "resin" "I" : Cond) ∈ tb_G := tb_in (List.mem_of_getElem? (i := 103) (by decide +kernel)) rfl
theorem tq_104 : (.fieldLink "PullSaw" 149 "PullSaw$Yard" "resin" "I" : Cond) ∈ tb_G := tb_in (List.mem_of_getElem? (i := 104) (by decide +kernel)) rfl
theorem tq_105 : (.fieldLink "PullSaw$Reader" 124 "PullSaw$Yard" "resin" "I" : Cond) ∈ tb_G := tb_in (List.mem_of_getElem? (i := 105) (by decide +kernel)) rfl
theorem tq_106 : (.fieldLink "PullSaw$Work" 107 "PullSaw$Yard" "resin" "I" : Cond) ∈ tb_G := tb_in (List.mem_of_getElem? (i := 106) (by decide +kernel)) rfl
theorem tq_107 : (.fieldLink "PullSaw$Yard" 21 "PullSaw$Yard" "closes" "I" : Cond) ∈ tb_G := tb_in (List.mem_of_getElem? (i := 107) (by decide +kernel)) rfl
theorem tq_108 : (.fieldLink "PullSaw$Reader" 81 "PullSaw$Yard" "closes" "I" : Cond) ∈ tb_G := tb_in (List.mem_of_getElem? (i := 108) (by decide +kernel)) rfl
theorem tq_109 : (.fieldLink "PullSaw" 152 "PullSaw$Yard" "closes" "I" : Cond) ∈ tb_G := tb_in (List.mem_of_getElem? (i := 109) (by decide +kernel)) rfl
theorem tq_110 : (.fieldLink "PullSaw$Work" 131 "PullSaw$Yard" "closes" "I" : Cond) ∈ tb_G := tb_in (List.mem_of_getElem? (i := 110) (by decide +kernel)) rfl
theorem tq_111 : (.fieldLink "PullSaw$Yard" 24 "PullSaw$Yard" "woods" "[I" : Cond) ∈ tb_G := tb_in (List.mem_of_getElem? (i := 111) (by decide +kernel)) rfl
theorem tq_112 : (.fieldLink "PullSaw$Reader" 93 "PullSaw$Yard" "woods" "[I" : Cond) ∈ tb_G := tb_in (List.mem_of_getElem? (i := 112) (by decide +kernel)) rfl
theorem tq_113 : (.fieldLink "PullSaw" 161 "PullSaw$Yard" "woods" "[I" : Cond) ∈ tb_G := tb_in (List.mem_of_getElem? (i := 113) (by decide +kernel)) rfl
theorem tq_114 : (.fieldLink "PullSaw$Work" 137 "PullSaw$Yard" "woods" "[I" : Cond) ∈ tb_G := tb_in (List.mem_of_getElem? (i := 114) (by decide +kernel)) rfl
theorem tq_115 : (.fieldLink "PullSaw$Yard" 28 "PullSaw$Yard" "forces" "[I" : Cond) ∈ tb_G := tb_in (List.mem_of_getElem? (i := 115) (by decide +kernel)) rfl
theorem tq_116 : (.fieldLink "PullSaw$Work" 66 "PullSaw$Yard" "forces" "[I" : Cond) ∈ tb_G := tb_in (List.mem_of_getElem? (i := 116) (by decide +kernel)) rfl
theorem tq_117 : (.fieldLink "PullSaw$Trial" 37 "PullSaw$Yard" "forces" "[I" : Cond) ∈ tb_G := tb_in (List.mem_of_getElem? (i := 117) (by decide +kernel)) rfl
theorem tq_118 : (.fieldLink "PullSaw$Reader" 103 "PullSaw$Yard" "forces" "[I" : Cond) ∈ tb_G := tb_in (List.mem_of_getElem? (i := 118) (by decide +kernel)) rfl
theorem tq_119 : (.fieldLink "PullSaw" 174 "PullSaw$Yard" "forces" "[I" : Cond) ∈ tb_G := tb_in (List.mem_of_getElem? (i := 119) (by decide +kernel)) rfl
theorem tq_120 : (.fieldLink "PullSaw$Yard" 31 "PullSaw$Yard" "heights" "[I" : Cond) ∈ tb_G := tb_in (List.mem_of_getElem? (i := 120) (by decide +kernel)) rfl
theorem tq_121 : (.fieldLink "PullSaw$Reader" 106 "PullSaw$Yard" "heights" "[I" : Cond) ∈ tb_G := tb_in (List.mem_of_getElem? (i := 121) (by decide +kernel)) rfl
theorem tq_122 : (.fieldLink "PullSaw$Work" 83 "PullSaw$Yard" "heights" "[I" : Cond) ∈ tb_G := tb_in (List.mem_of_getElem? (i := 122) (by decide +kernel)) rfl
theorem tq_123 : (.fieldLink "PullSaw" 177 "PullSaw$Yard" "heights" "[I" : Cond) ∈ tb_G := tb_in (List.mem_of_getElem? (i := 123) (by decide +kernel)) rfl
theorem tq_124 : (.fieldLink "PullSaw$Yard" 34 "PullSaw$Yard" "tires" "[I" : Cond) ∈ tb_G := tb_in (List.mem_of_getElem? (i := 124) (by decide +kernel)) rfl
theorem tq_125 : (.fieldLink "PullSaw$Reader" 109 "PullSaw$Yard" "tires" "[I" : Cond) ∈ tb_G := tb_in (List.mem_of_getElem? (i := 125) (by decide +kernel)) rfl
theorem tq_126 : (.fieldLink "PullSaw" 180 "PullSaw$Yard" "tires" "[I" : Cond) ∈ tb_G := tb_in (List.mem_of_getElem? (i := 126) (by decide +kernel)) rfl
theorem tq_127 : (.fieldLink "PullSaw$Work" 114 "PullSaw$Yard" "tires" "[I" : Cond) ∈ tb_G := tb_in (List.mem_of_getElem? (i := 127) (by decide +kernel)) rfl
theorem tq_128 : (.fieldLink "PullSaw$Yard" 37 "PullSaw$Yard" "firstHabits" "[I" : Cond) ∈ tb_G := tb_in (List.mem_of_getElem? (i := 128) (by decide +kernel)) rfl
theorem tq_129 : (.fieldLink "PullSaw$Work" 69 "PullSaw$Yard" "firstHabits" "[I" : Cond) ∈ tb_G := tb_in (List.mem_of_getElem? (i := 129) (by decide +kernel)) rfl
theorem tq_130 : (.fieldLink "PullSaw$Reader" 112 "PullSaw$Yard" "firstHabits" "[I" : Cond) ∈ tb_G := tb_in (List.mem_of_getElem? (i := 130) (by decide +kernel)) rfl
theorem tq_131 : (.fieldLink "PullSaw$Yard" 40 "PullSaw$Yard" "bents" "[I" : Cond) ∈ tb_G := tb_in (List.mem_of_getElem? (i := 131) (by decide +kernel)) rfl
theorem tq_132 : (.fieldLink "PullSaw$Reader" 115 "PullSaw$Yard" "bents" "[I" : Cond) ∈ tb_G := tb_in (List.mem_of_getElem? (i := 132) (by decide +kernel)) rfl
theorem tq_133 : (.fieldLink "PullSaw" 186 "PullSaw$Yard" "bents" "[I" : Cond) ∈ tb_G := tb_in (List.mem_of_getElem? (i := 133) (by decide +kernel)) rfl
theorem tq_134 : (.fieldLink "PullSaw$Work" 117 "PullSaw$Yard" "bents" "[I" : Cond) ∈ tb_G := tb_in (List.mem_of_getElem? (i := 134) (by decide +kernel)) rfl
theorem tq_135 : (.lays "PullSaw$Yard" "PullSaw$Yard" "layers" "I" : Cond) ∈ tb_G := tb_in (List.mem_of_getElem? (i := 135) (by decide +kernel)) rfl
theorem tq_137 : (.lays "PullSaw$Yard" "PullSaw$Yard" "people" "I" : Cond) ∈ tb_G := tb_in (List.mem_of_getElem? (i := 137) (by decide +kernel)) rfl
theorem tq_139 : (.lays "PullSaw$Yard" "PullSaw$Yard" "teeth" "I" : Cond) ∈ tb_G := tb_in (List.mem_of_getElem? (i := 139) (by decide +kernel)) rfl
theorem tq_141 : (.lays "PullSaw$Yard" "PullSaw$Yard" "limit" "I" : Cond) ∈ tb_G := tb_in (List.mem_of_getElem? (i := 141) (by decide +kernel)) rfl
theorem tq_143 : (.lays "PullSaw$Yard" "PullSaw$Yard" "resin" "I" : Cond) ∈ tb_G := tb_in (List.mem_of_getElem? (i := 143) (by decide +kernel)) rfl
theorem tq_145 : (.lays "PullSaw$Yard" "PullSaw$Yard" "closes" "I" : Cond) ∈ tb_G := tb_in (List.mem_of_getElem? (i := 145) (by decide +kernel)) rfl
theorem tq_147 : (.laysFinal "PullSaw$Yard" "PullSaw$Yard" "woods" "[I" : Cond) ∈ tb_G := tb_in (List.mem_of_getElem? (i := 147) (by decide +kernel)) rfl
theorem tq_149 : (.laysFinal "PullSaw$Yard" "PullSaw$Yard" "forces" "[I" : Cond) ∈ tb_G := tb_in (List.mem_of_getElem? (i := 149) (by decide +kernel)) rfl
theorem tq_151 : (.laysFinal "PullSaw$Yard" "PullSaw$Yard" "heights" "[I" : Cond) ∈ tb_G := tb_in (List.mem_of_getElem? (i := 151) (by decide +kernel)) rfl
theorem tq_153 : (.laysFinal "PullSaw$Yard" "PullSaw$Yard" "tires" "[I" : Cond) ∈ tb_G := tb_in (List.mem_of_getElem? (i := 153) (by decide +kernel)) rfl
theorem tq_155 : (.laysFinal "PullSaw$Yard" "PullSaw$Yard" "firstHabits" "[I" : Cond) ∈ tb_G := tb_in (List.mem_of_getElem? (i := 155) (by decide +kernel)) rfl
theorem tq_157 : (.laysFinal "PullSaw$Yard" "PullSaw$Yard" "bents" "[I" : Cond) ∈ tb_G := tb_in (List.mem_of_getElem? (i := 157) (by decide +kernel)) rfl
theorem tq_160 : (.arrayClass .int : Cond) ∈ tb_G := tb_in (List.mem_of_getElem? (i := 160) (by decide +kernel)) rfl
theorem tq_161 : (.classLink "PullSaw" 16 "PullSaw$Reader" : Cond) ∈ tb_G := tb_in (List.mem_of_getElem? (i := 161) (by decide +kernel)) rfl
theorem tq_162 : (.instantiable "PullSaw$Reader" 7 : Cond) ∈ tb_G := tb_in (List.mem_of_getElem? (i := 162) (by decide +kernel)) rfl
theorem tq_164 : (.instanceMethod ⟨"PullSaw$Reader", "<init>", "()V"⟩ : Cond) ∈ tb_G := tb_in (List.mem_of_getElem? (i := 164) (by decide +kernel)) rfl
set_option maxRecDepth 100000 in
theorem tq_165 : (.code ⟨"PullSaw$Reader", "<init>", "()V"⟩ prog_5_method_1_code 1 none : Cond) ∈ tb_G := tb_in (List.mem_of_getElem? (i := 165) rfl) rfl
theorem tq_166 : (.methodLink "PullSaw$Reader" 3 ⟨"java/lang/Object", "<init>", "()V"⟩ : Cond) ∈ tb_G := tb_in (List.mem_of_getElem? (i := 166) (by decide +kernel)) rfl
theorem tq_167 : (.classLink "PullSaw$Reader" 9 "PullSaw$Sheet" : Cond) ∈ tb_G := tb_in (List.mem_of_getElem? (i := 167) (by decide +kernel)) rfl
theorem tq_168 : (.instantiable "PullSaw$Sheet" 2 : Cond) ∈ tb_G := tb_in (List.mem_of_getElem? (i := 168) (by decide +kernel)) rfl
theorem tq_169 : (.methodLink "PullSaw$Reader" 11 ⟨"PullSaw$Sheet", "<init>", "(I)V"⟩ : Cond) ∈ tb_G := tb_in (List.mem_of_getElem? (i := 169) (by decide +kernel)) rfl
theorem tq_170 : (.instanceMethod ⟨"PullSaw$Sheet", "<init>", "(I)V"⟩ : Cond) ∈ tb_G := tb_in (List.mem_of_getElem? (i := 170) (by decide +kernel)) rfl
set_option maxRecDepth 100000 in
theorem tq_171 : (.code ⟨"PullSaw$Sheet", "<init>", "(I)V"⟩ prog_7_method_1_code 2 none : Cond) ∈ tb_G := tb_in (List.mem_of_getElem? (i := 171) rfl) rfl
theorem tq_172 : (.methodLink "PullSaw$Sheet" 3 ⟨"java/lang/Object", "<init>", "()V"⟩ : Cond) ∈ tb_G := tb_in (List.mem_of_getElem? (i := 172) (by decide +kernel)) rfl
theorem tq_173 : (.methodLink "PullSaw$Sheet" 9 ⟨"java/lang/Math", "max", "(II)I"⟩ : Cond) ∈ tb_G := tb_in (List.mem_of_getElem? (i := 173) (by decide +kernel)) rfl
theorem tq_174 : (.static ⟨"java/lang/Math", "max", "(II)I"⟩ : Cond) ∈ tb_G := tb_in (List.mem_of_getElem? (i := 174) (by decide +kernel)) rfl
set_option maxRecDepth 100000 in
theorem tq_175 : (.code ⟨"java/lang/Math", "max", "(II)I"⟩ prog_14_method_65_code 2 (some .int) : Cond) ∈ tb_G := tb_in (List.mem_of_getElem? (i := 175) rfl) rfl
theorem tq_176 : (.fieldLink "PullSaw$Sheet" 15 "PullSaw$Sheet" "marks" "[I" : Cond) ∈ tb_G := tb_in (List.mem_of_getElem? (i := 176) (by decide +kernel)) rfl
theorem tq_177 : (.fieldLink "PullSaw$Sheet" 21 "PullSaw$Sheet" "count" "I" : Cond) ∈ tb_G := tb_in (List.mem_of_getElem? (i := 177) (by decide +kernel)) rfl
theorem tq_178 : (.fieldLink "PullSaw" 81 "PullSaw$Sheet" "count" "I" : Cond) ∈ tb_G := tb_in (List.mem_of_getElem? (i := 178) (by decide +kernel)) rfl
theorem tq_179 : (.fieldLink "PullSaw$Reader" 50 "PullSaw$Sheet" "count" "I" : Cond) ∈ tb_G := tb_in (List.mem_of_getElem? (i := 179) (by decide +kernel)) rfl
theorem tq_180 : (.fieldLink "PullSaw$Trial" 173 "PullSaw$Sheet" "count" "I" : Cond) ∈ tb_G := tb_in (List.mem_of_getElem? (i := 180) (by decide +kernel)) rfl
theorem tq_181 : (.laysFinal "PullSaw$Sheet" "PullSaw$Sheet" "marks" "[I" : Cond) ∈ tb_G := tb_in (List.mem_of_getElem? (i := 181) (by decide +kernel)) rfl
theorem tq_183 : (.lays "PullSaw$Sheet" "PullSaw$Sheet" "count" "I" : Cond) ∈ tb_G := tb_in (List.mem_of_getElem? (i := 183) (by decide +kernel)) rfl
theorem tq_186 : (.classLink "PullSaw$Reader" 20 "PullSaw$Yard" : Cond) ∈ tb_G := tb_in (List.mem_of_getElem? (i := 186) (by decide +kernel)) rfl
theorem tq_188 : (.fieldLink "PullSaw$Reader" 14 "PullSaw$Reader" "text" "LPullSaw$Sheet;" : Cond) ∈ tb_G := tb_in (List.mem_of_getElem? (i := 188) (by decide +kernel)) rfl
theorem tq_189 : (.fieldLink "PullSaw" 74 "PullSaw$Reader" "text" "LPullSaw$Sheet;" : Cond) ∈ tb_G := tb_in (List.mem_of_getElem? (i := 189) (by decide +kernel)) rfl
theorem tq_190 : (.fieldLink "PullSaw$Reader" 23 "PullSaw$Reader" "draft" "LPullSaw$Yard;" : Cond) ∈ tb_G := tb_in (List.mem_of_getElem? (i := 190) (by decide +kernel)) rfl
theorem tq_191 : (.fieldLink "PullSaw" 92 "PullSaw$Reader" "draft" "LPullSaw$Yard;" : Cond) ∈ tb_G := tb_in (List.mem_of_getElem? (i := 191) (by decide +kernel)) rfl
theorem tq_192 : (.fieldLink "PullSaw$Reader" 34 "PullSaw$Reader" "faultKind" "I" : Cond) ∈ tb_G := tb_in (List.mem_of_getElem? (i := 192) (by decide +kernel)) rfl
theorem tq_193 : (.fieldLink "PullSaw" 89 "PullSaw$Reader" "faultKind" "I" : Cond) ∈ tb_G := tb_in (List.mem_of_getElem? (i := 193) (by decide +kernel)) rfl
theorem tq_194 : (.fieldLink "PullSaw$Reader" 27 "PullSaw$Reader" "faultPlace" "I" : Cond) ∈ tb_G := tb_in (List.mem_of_getElem? (i := 194) (by decide +kernel)) rfl
theorem tq_195 : (.fieldLink "PullSaw" 113 "PullSaw$Reader" "faultPlace" "I" : Cond) ∈ tb_G := tb_in (List.mem_of_getElem? (i := 195) (by decide +kernel)) rfl
theorem tq_196 : (.fieldLink "PullSaw$Reader" 37 "PullSaw$Reader" "place" "I" : Cond) ∈ tb_G := tb_in (List.mem_of_getElem? (i := 196) (by decide +kernel)) rfl
theorem tq_197 : (.fieldLink "PullSaw$Reader" 40 "PullSaw$Reader" "sawTold" "Z" : Cond) ∈ tb_G := tb_in (List.mem_of_getElem? (i := 197) (by decide +kernel)) rfl
theorem tq_198 : (.fieldLink "PullSaw$Reader" 44 "PullSaw$Reader" "closeTold" "Z" : Cond) ∈ tb_G := tb_in (List.mem_of_getElem? (i := 198) (by decide +kernel)) rfl
theorem tq_199 : (.laysFinal "PullSaw$Reader" "PullSaw$Reader" "text" "LPullSaw$Sheet;" : Cond) ∈ tb_G := tb_in (List.mem_of_getElem? (i := 199) (by decide +kernel)) rfl
theorem tq_201 : (.laysFinal "PullSaw$Reader" "PullSaw$Reader" "draft" "LPullSaw$Yard;" : Cond) ∈ tb_G := tb_in (List.mem_of_getElem? (i := 201) (by decide +kernel)) rfl
theorem tq_203 : (.lays "PullSaw$Reader" "PullSaw$Reader" "faultKind" "I" : Cond) ∈ tb_G := tb_in (List.mem_of_getElem? (i := 203) (by decide +kernel)) rfl
theorem tq_205 : (.lays "PullSaw$Reader" "PullSaw$Reader" "faultPlace" "I" : Cond) ∈ tb_G := tb_in (List.mem_of_getElem? (i := 205) (by decide +kernel)) rfl
theorem tq_207 : (.lays "PullSaw$Reader" "PullSaw$Reader" "place" "I" : Cond) ∈ tb_G := tb_in (List.mem_of_getElem? (i := 207) (by decide +kernel)) rfl
theorem tq_209 : (.lays "PullSaw$Reader" "PullSaw$Reader" "sawTold" "Z" : Cond) ∈ tb_G := tb_in (List.mem_of_getElem? (i := 209) (by decide +kernel)) rfl
theorem tq_211 : (.lays "PullSaw$Reader" "PullSaw$Reader" "closeTold" "Z" : Cond) ∈ tb_G := tb_in (List.mem_of_getElem? (i := 211) (by decide +kernel)) rfl
theorem tq_214 : (.classLink "PullSaw" 23 "PullSaw$Work" : Cond) ∈ tb_G := tb_in (List.mem_of_getElem? (i := 214) (by decide +kernel)) rfl
theorem tq_215 : (.instantiable "PullSaw$Work" 13 : Cond) ∈ tb_G := tb_in (List.mem_of_getElem? (i := 215) (by decide +kernel)) rfl
theorem tq_217 : (.instanceMethod ⟨"PullSaw$Work", "<init>", "()V"⟩ : Cond) ∈ tb_G := tb_in (List.mem_of_getElem? (i := 217) (by decide +kernel)) rfl
set_option maxRecDepth 100000 in
theorem tq_218 : (.code ⟨"PullSaw$Work", "<init>", "()V"⟩ prog_9_method_1_code 1 none : Cond) ∈ tb_G := tb_in (List.mem_of_getElem? (i := 218) rfl) rfl
theorem tq_219 : (.methodLink "PullSaw$Work" 3 ⟨"java/lang/Object", "<init>", "()V"⟩ : Cond) ∈ tb_G := tb_in (List.mem_of_getElem? (i := 219) (by decide +kernel)) rfl
theorem tq_220 : (.fieldLink "PullSaw$Work" 9 "PullSaw$Work" "left" "I" : Cond) ∈ tb_G := tb_in (List.mem_of_getElem? (i := 220) (by decide +kernel)) rfl
theorem tq_221 : (.fieldLink "PullSaw" 119 "PullSaw$Work" "left" "I" : Cond) ∈ tb_G := tb_in (List.mem_of_getElem? (i := 221) (by decide +kernel)) rfl
theorem tq_222 : (.fieldLink "PullSaw$Trial" 70 "PullSaw$Work" "left" "I" : Cond) ∈ tb_G := tb_in (List.mem_of_getElem? (i := 222) (by decide +kernel)) rfl
theorem tq_223 : (.fieldLink "PullSaw$Work" 15 "PullSaw$Work" "right" "I" : Cond) ∈ tb_G := tb_in (List.mem_of_getElem? (i := 223) (by decide +kernel)) rfl
theorem tq_224 : (.fieldLink "PullSaw" 122 "PullSaw$Work" "right" "I" : Cond) ∈ tb_G := tb_in (List.mem_of_getElem? (i := 224) (by decide +kernel)) rfl
theorem tq_225 : (.fieldLink "PullSaw$Trial" 81 "PullSaw$Work" "right" "I" : Cond) ∈ tb_G := tb_in (List.mem_of_getElem? (i := 225) (by decide +kernel)) rfl
theorem tq_226 : (.fieldLink "PullSaw$Work" 18 "PullSaw$Work" "next" "I" : Cond) ∈ tb_G := tb_in (List.mem_of_getElem? (i := 226) (by decide +kernel)) rfl
theorem tq_227 : (.fieldLink "PullSaw" 125 "PullSaw$Work" "next" "I" : Cond) ∈ tb_G := tb_in (List.mem_of_getElem? (i := 227) (by decide +kernel)) rfl
theorem tq_228 : (.fieldLink "PullSaw$Work" 37 "PullSaw$Work" "depth" "I" : Cond) ∈ tb_G := tb_in (List.mem_of_getElem? (i := 228) (by decide +kernel)) rfl
theorem tq_229 : (.fieldLink "PullSaw" 128 "PullSaw$Work" "depth" "I" : Cond) ∈ tb_G := tb_in (List.mem_of_getElem? (i := 229) (by decide +kernel)) rfl
theorem tq_230 : (.fieldLink "PullSaw$Trial" 156 "PullSaw$Work" "depth" "I" : Cond) ∈ tb_G := tb_in (List.mem_of_getElem? (i := 230) (by decide +kernel)) rfl
theorem tq_231 : (.fieldLink "PullSaw$Work" 40 "PullSaw$Work" "strokes" "I" : Cond) ∈ tb_G := tb_in (List.mem_of_getElem? (i := 231) (by decide +kernel)) rfl
theorem tq_232 : (.fieldLink "PullSaw" 131 "PullSaw$Work" "strokes" "I" : Cond) ∈ tb_G := tb_in (List.mem_of_getElem? (i := 232) (by decide +kernel)) rfl
theorem tq_233 : (.fieldLink "PullSaw$Work" 43 "PullSaw$Work" "askew" "I" : Cond) ∈ tb_G := tb_in (List.mem_of_getElem? (i := 233) (by decide +kernel)) rfl
theorem tq_234 : (.fieldLink "PullSaw" 134 "PullSaw$Work" "askew" "I" : Cond) ∈ tb_G := tb_in (List.mem_of_getElem? (i := 234) (by decide +kernel)) rfl
theorem tq_235 : (.fieldLink "PullSaw$Work" 46 "PullSaw$Work" "gum" "I" : Cond) ∈ tb_G := tb_in (List.mem_of_getElem? (i := 235) (by decide +kernel)) rfl
theorem tq_236 : (.fieldLink "PullSaw" 137 "PullSaw$Work" "gum" "I" : Cond) ∈ tb_G := tb_in (List.mem_of_getElem? (i := 236) (by decide +kernel)) rfl
theorem tq_237 : (.fieldLink "PullSaw$Work" 21 "PullSaw$Work" "teeth" "I" : Cond) ∈ tb_G := tb_in (List.mem_of_getElem? (i := 237) (by decide +kernel)) rfl
theorem tq_238 : (.fieldLink "PullSaw" 143 "PullSaw$Work" "teeth" "I" : Cond) ∈ tb_G := tb_in (List.mem_of_getElem? (i := 238) (by decide +kernel)) rfl
theorem tq_239 : (.fieldLink "PullSaw$Trial" 159 "PullSaw$Work" "teeth" "I" : Cond) ∈ tb_G := tb_in (List.mem_of_getElem? (i := 239) (by decide +kernel)) rfl
theorem tq_240 : (.fieldLink "PullSaw$Work" 49 "PullSaw$Work" "wedged" "Z" : Cond) ∈ tb_G := tb_in (List.mem_of_getElem? (i := 240) (by decide +kernel)) rfl
theorem tq_241 : (.fieldLink "PullSaw" 140 "PullSaw$Work" "wedged" "Z" : Cond) ∈ tb_G := tb_in (List.mem_of_getElem? (i := 241) (by decide +kernel)) rfl
theorem tq_242 : (.fieldLink "PullSaw$Trial" 133 "PullSaw$Work" "wedged" "Z" : Cond) ∈ tb_G := tb_in (List.mem_of_getElem? (i := 242) (by decide +kernel)) rfl
theorem tq_243 : (.fieldLink "PullSaw$Work" 24 "PullSaw$Work" "wishes" "[I" : Cond) ∈ tb_G := tb_in (List.mem_of_getElem? (i := 243) (by decide +kernel)) rfl
theorem tq_244 : (.fieldLink "PullSaw$Trial" 43 "PullSaw$Work" "wishes" "[I" : Cond) ∈ tb_G := tb_in (List.mem_of_getElem? (i := 244) (by decide +kernel)) rfl
theorem tq_245 : (.fieldLink "PullSaw" 189 "PullSaw$Work" "wishes" "[I" : Cond) ∈ tb_G := tb_in (List.mem_of_getElem? (i := 245) (by decide +kernel)) rfl
theorem tq_246 : (.fieldLink "PullSaw$Work" 28 "PullSaw$Work" "habits" "[I" : Cond) ∈ tb_G := tb_in (List.mem_of_getElem? (i := 246) (by decide +kernel)) rfl
theorem tq_247 : (.fieldLink "PullSaw" 183 "PullSaw$Work" "habits" "[I" : Cond) ∈ tb_G := tb_in (List.mem_of_getElem? (i := 247) (by decide +kernel)) rfl
theorem tq_248 : (.fieldLink "PullSaw$Trial" 162 "PullSaw$Work" "habits" "[I" : Cond) ∈ tb_G := tb_in (List.mem_of_getElem? (i := 248) (by decide +kernel)) rfl
theorem tq_249 : (.fieldLink "PullSaw$Work" 31 "PullSaw$Work" "tired" "[I" : Cond) ∈ tb_G := tb_in (List.mem_of_getElem? (i := 249) (by decide +kernel)) rfl
theorem tq_250 : (.fieldLink "PullSaw$Trial" 67 "PullSaw$Work" "tired" "[I" : Cond) ∈ tb_G := tb_in (List.mem_of_getElem? (i := 250) (by decide +kernel)) rfl
theorem tq_251 : (.fieldLink "PullSaw" 192 "PullSaw$Work" "tired" "[I" : Cond) ∈ tb_G := tb_in (List.mem_of_getElem? (i := 251) (by decide +kernel)) rfl
theorem tq_252 : (.fieldLink "PullSaw$Work" 34 "PullSaw$Work" "answers" "[I" : Cond) ∈ tb_G := tb_in (List.mem_of_getElem? (i := 252) (by decide +kernel)) rfl
theorem tq_253 : (.fieldLink "PullSaw$Trial" 87 "PullSaw$Work" "answers" "[I" : Cond) ∈ tb_G := tb_in (List.mem_of_getElem? (i := 253) (by decide +kernel)) rfl
theorem tq_254 : (.fieldLink "PullSaw" 195 "PullSaw$Work" "answers" "[I" : Cond) ∈ tb_G := tb_in (List.mem_of_getElem? (i := 254) (by decide +kernel)) rfl
theorem tq_255 : (.lays "PullSaw$Work" "PullSaw$Work" "left" "I" : Cond) ∈ tb_G := tb_in (List.mem_of_getElem? (i := 255) (by decide +kernel)) rfl
theorem tq_257 : (.lays "PullSaw$Work" "PullSaw$Work" "right" "I" : Cond) ∈ tb_G := tb_in (List.mem_of_getElem? (i := 257) (by decide +kernel)) rfl
theorem tq_259 : (.lays "PullSaw$Work" "PullSaw$Work" "next" "I" : Cond) ∈ tb_G := tb_in (List.mem_of_getElem? (i := 259) (by decide +kernel)) rfl
theorem tq_261 : (.lays "PullSaw$Work" "PullSaw$Work" "depth" "I" : Cond) ∈ tb_G := tb_in (List.mem_of_getElem? (i := 261) (by decide +kernel)) rfl
theorem tq_263 : (.lays "PullSaw$Work" "PullSaw$Work" "strokes" "I" : Cond) ∈ tb_G := tb_in (List.mem_of_getElem? (i := 263) (by decide +kernel)) rfl
theorem tq_265 : (.lays "PullSaw$Work" "PullSaw$Work" "askew" "I" : Cond) ∈ tb_G := tb_in (List.mem_of_getElem? (i := 265) (by decide +kernel)) rfl
theorem tq_267 : (.lays "PullSaw$Work" "PullSaw$Work" "gum" "I" : Cond) ∈ tb_G := tb_in (List.mem_of_getElem? (i := 267) (by decide +kernel)) rfl
theorem tq_269 : (.lays "PullSaw$Work" "PullSaw$Work" "teeth" "I" : Cond) ∈ tb_G := tb_in (List.mem_of_getElem? (i := 269) (by decide +kernel)) rfl
theorem tq_271 : (.lays "PullSaw$Work" "PullSaw$Work" "wedged" "Z" : Cond) ∈ tb_G := tb_in (List.mem_of_getElem? (i := 271) (by decide +kernel)) rfl
theorem tq_273 : (.laysFinal "PullSaw$Work" "PullSaw$Work" "wishes" "[I" : Cond) ∈ tb_G := tb_in (List.mem_of_getElem? (i := 273) (by decide +kernel)) rfl
theorem tq_275 : (.laysFinal "PullSaw$Work" "PullSaw$Work" "habits" "[I" : Cond) ∈ tb_G := tb_in (List.mem_of_getElem? (i := 275) (by decide +kernel)) rfl
theorem tq_277 : (.laysFinal "PullSaw$Work" "PullSaw$Work" "tired" "[I" : Cond) ∈ tb_G := tb_in (List.mem_of_getElem? (i := 277) (by decide +kernel)) rfl
theorem tq_279 : (.laysFinal "PullSaw$Work" "PullSaw$Work" "answers" "[I" : Cond) ∈ tb_G := tb_in (List.mem_of_getElem? (i := 279) (by decide +kernel)) rfl
theorem tq_282 : (.classLink "PullSaw" 30 "PullSaw$Past" : Cond) ∈ tb_G := tb_in (List.mem_of_getElem? (i := 282) (by decide +kernel)) rfl
theorem tq_283 : (.instantiable "PullSaw$Past" 3 : Cond) ∈ tb_G := tb_in (List.mem_of_getElem? (i := 283) (by decide +kernel)) rfl
theorem tq_284 : (.methodLink "PullSaw" 32 ⟨"PullSaw$Past", "<init>", "()V"⟩ : Cond) ∈ tb_G := tb_in (List.mem_of_getElem? (i := 284) (by decide +kernel)) rfl
theorem tq_285 : (.instanceMethod ⟨"PullSaw$Past", "<init>", "()V"⟩ : Cond) ∈ tb_G := tb_in (List.mem_of_getElem? (i := 285) (by decide +kernel)) rfl
set_option maxRecDepth 100000 in
theorem tq_286 : (.code ⟨"PullSaw$Past", "<init>", "()V"⟩ prog_4_method_1_code 2 none : Cond) ∈ tb_G := tb_in (List.mem_of_getElem? (i := 286) rfl) rfl
theorem tq_287 : (.methodLink "PullSaw$Past" 3 ⟨"java/lang/Object", "<init>", "()V"⟩ : Cond) ∈ tb_G := tb_in (List.mem_of_getElem? (i := 287) (by decide +kernel)) rfl
theorem tq_288 : (.classLink "PullSaw$Past" 9 "PullSaw$Work" : Cond) ∈ tb_G := tb_in (List.mem_of_getElem? (i := 288) (by decide +kernel)) rfl
theorem tq_291 : (.fieldLink "PullSaw$Past" 18 "PullSaw$Past" "count" "I" : Cond) ∈ tb_G := tb_in (List.mem_of_getElem? (i := 291) (by decide +kernel)) rfl
theorem tq_292 : (.fieldLink "PullSaw" 159 "PullSaw$Past" "count" "I" : Cond) ∈ tb_G := tb_in (List.mem_of_getElem? (i := 292) (by decide +kernel)) rfl
theorem tq_293 : (.fieldLink "PullSaw$Past" 22 "PullSaw$Past" "top" "I" : Cond) ∈ tb_G := tb_in (List.mem_of_getElem? (i := 293) (by decide +kernel)) rfl
theorem tq_294 : (.fieldLink "PullSaw$Past" 11 "PullSaw$Past" "ring" "[LPullSaw$Work;" : Cond) ∈ tb_G := tb_in (List.mem_of_getElem? (i := 294) (by decide +kernel)) rfl
theorem tq_295 : (.lays "PullSaw$Past" "PullSaw$Past" "count" "I" : Cond) ∈ tb_G := tb_in (List.mem_of_getElem? (i := 295) (by decide +kernel)) rfl
theorem tq_297 : (.lays "PullSaw$Past" "PullSaw$Past" "top" "I" : Cond) ∈ tb_G := tb_in (List.mem_of_getElem? (i := 297) (by decide +kernel)) rfl
theorem tq_299 : (.laysFinal "PullSaw$Past" "PullSaw$Past" "ring" "[LPullSaw$Work;" : Cond) ∈ tb_G := tb_in (List.mem_of_getElem? (i := 299) (by decide +kernel)) rfl
theorem tq_302 : (.classLink "PullSaw" 37 "PullSaw$Trial" : Cond) ∈ tb_G := tb_in (List.mem_of_getElem? (i := 302) (by decide +kernel)) rfl
theorem tq_303 : (.instantiable "PullSaw$Trial" 10 : Cond) ∈ tb_G := tb_in (List.mem_of_getElem? (i := 303) (by decide +kernel)) rfl
theorem tq_305 : (.instanceMethod ⟨"PullSaw$Trial", "<init>", "()V"⟩ : Cond) ∈ tb_G := tb_in (List.mem_of_getElem? (i := 305) (by decide +kernel)) rfl
set_option maxRecDepth 100000 in
theorem tq_306 : (.code ⟨"PullSaw$Trial", "<init>", "()V"⟩ prog_8_method_1_code 1 none : Cond) ∈ tb_G := tb_in (List.mem_of_getElem? (i := 306) rfl) rfl
theorem tq_307 : (.methodLink "PullSaw$Trial" 3 ⟨"java/lang/Object", "<init>", "()V"⟩ : Cond) ∈ tb_G := tb_in (List.mem_of_getElem? (i := 307) (by decide +kernel)) rfl
theorem tq_308 : (.classLink "PullSaw$Trial" 9 "PullSaw$Work" : Cond) ∈ tb_G := tb_in (List.mem_of_getElem? (i := 308) (by decide +kernel)) rfl
theorem tq_310 : (.fieldLink "PullSaw$Trial" 96 "PullSaw$Trial" "fewest" "I" : Cond) ∈ tb_G := tb_in (List.mem_of_getElem? (i := 310) (by decide +kernel)) rfl
theorem tq_311 : (.fieldLink "PullSaw" 263 "PullSaw$Trial" "fewest" "I" : Cond) ∈ tb_G := tb_in (List.mem_of_getElem? (i := 311) (by decide +kernel)) rfl
theorem tq_312 : (.fieldLink "PullSaw$Trial" 99 "PullSaw$Trial" "firstWish" "I" : Cond) ∈ tb_G := tb_in (List.mem_of_getElem? (i := 312) (by decide +kernel)) rfl
theorem tq_313 : (.fieldLink "PullSaw" 266 "PullSaw$Trial" "firstWish" "I" : Cond) ∈ tb_G := tb_in (List.mem_of_getElem? (i := 313) (by decide +kernel)) rfl
theorem tq_314 : (.fieldLink "PullSaw$Trial" 102 "PullSaw$Trial" "otherWish" "I" : Cond) ∈ tb_G := tb_in (List.mem_of_getElem? (i := 314) (by decide +kernel)) rfl
theorem tq_315 : (.fieldLink "PullSaw" 269 "PullSaw$Trial" "otherWish" "I" : Cond) ∈ tb_G := tb_in (List.mem_of_getElem? (i := 315) (by decide +kernel)) rfl
theorem tq_316 : (.fieldLink "PullSaw$Trial" 137 "PullSaw$Trial" "deepest" "I" : Cond) ∈ tb_G := tb_in (List.mem_of_getElem? (i := 316) (by decide +kernel)) rfl
theorem tq_317 : (.fieldLink "PullSaw" 296 "PullSaw$Trial" "deepest" "I" : Cond) ∈ tb_G := tb_in (List.mem_of_getElem? (i := 317) (by decide +kernel)) rfl
theorem tq_318 : (.fieldLink "PullSaw$Trial" 78 "PullSaw$Trial" "leftTired" "I" : Cond) ∈ tb_G := tb_in (List.mem_of_getElem? (i := 318) (by decide +kernel)) rfl
theorem tq_319 : (.fieldLink "PullSaw$Trial" 84 "PullSaw$Trial" "rightTired" "I" : Cond) ∈ tb_G := tb_in (List.mem_of_getElem? (i := 319) (by decide +kernel)) rfl
theorem tq_320 : (.fieldLink "PullSaw$Trial" 90 "PullSaw$Trial" "leftAnswer" "I" : Cond) ∈ tb_G := tb_in (List.mem_of_getElem? (i := 320) (by decide +kernel)) rfl
theorem tq_321 : (.fieldLink "PullSaw$Trial" 93 "PullSaw$Trial" "rightAnswer" "I" : Cond) ∈ tb_G := tb_in (List.mem_of_getElem? (i := 321) (by decide +kernel)) rfl
theorem tq_322 : (.fieldLink "PullSaw$Trial" 12 "PullSaw$Trial" "tried" "LPullSaw$Work;" : Cond) ∈ tb_G := tb_in (List.mem_of_getElem? (i := 322) (by decide +kernel)) rfl
theorem tq_323 : (.fieldLink "PullSaw$Trial" 18 "PullSaw$Trial" "further" "LPullSaw$Work;" : Cond) ∈ tb_G := tb_in (List.mem_of_getElem? (i := 323) (by decide +kernel)) rfl
theorem tq_324 : (.lays "PullSaw$Trial" "PullSaw$Trial" "fewest" "I" : Cond) ∈ tb_G := tb_in (List.mem_of_getElem? (i := 324) (by decide +kernel)) rfl
theorem tq_326 : (.lays "PullSaw$Trial" "PullSaw$Trial" "firstWish" "I" : Cond) ∈ tb_G := tb_in (List.mem_of_getElem? (i := 326) (by decide +kernel)) rfl
theorem tq_328 : (.lays "PullSaw$Trial" "PullSaw$Trial" "otherWish" "I" : Cond) ∈ tb_G := tb_in (List.mem_of_getElem? (i := 328) (by decide +kernel)) rfl
theorem tq_330 : (.lays "PullSaw$Trial" "PullSaw$Trial" "deepest" "I" : Cond) ∈ tb_G := tb_in (List.mem_of_getElem? (i := 330) (by decide +kernel)) rfl
theorem tq_332 : (.lays "PullSaw$Trial" "PullSaw$Trial" "leftTired" "I" : Cond) ∈ tb_G := tb_in (List.mem_of_getElem? (i := 332) (by decide +kernel)) rfl
theorem tq_334 : (.lays "PullSaw$Trial" "PullSaw$Trial" "rightTired" "I" : Cond) ∈ tb_G := tb_in (List.mem_of_getElem? (i := 334) (by decide +kernel)) rfl
theorem tq_336 : (.lays "PullSaw$Trial" "PullSaw$Trial" "leftAnswer" "I" : Cond) ∈ tb_G := tb_in (List.mem_of_getElem? (i := 336) (by decide +kernel)) rfl
theorem tq_338 : (.lays "PullSaw$Trial" "PullSaw$Trial" "rightAnswer" "I" : Cond) ∈ tb_G := tb_in (List.mem_of_getElem? (i := 338) (by decide +kernel)) rfl
theorem tq_340 : (.laysFinal "PullSaw$Trial" "PullSaw$Trial" "tried" "LPullSaw$Work;" : Cond) ∈ tb_G := tb_in (List.mem_of_getElem? (i := 340) (by decide +kernel)) rfl
theorem tq_342 : (.laysFinal "PullSaw$Trial" "PullSaw$Trial" "further" "LPullSaw$Work;" : Cond) ∈ tb_G := tb_in (List.mem_of_getElem? (i := 342) (by decide +kernel)) rfl
theorem tq_345 : (.classLink "PullSaw" 44 "PullSaw$Balance" : Cond) ∈ tb_G := tb_in (List.mem_of_getElem? (i := 345) (by decide +kernel)) rfl
theorem tq_346 : (.instantiable "PullSaw$Balance" 7 : Cond) ∈ tb_G := tb_in (List.mem_of_getElem? (i := 346) (by decide +kernel)) rfl
theorem tq_348 : (.instanceMethod ⟨"PullSaw$Balance", "<init>", "()V"⟩ : Cond) ∈ tb_G := tb_in (List.mem_of_getElem? (i := 348) (by decide +kernel)) rfl
set_option maxRecDepth 100000 in
theorem tq_349 : (.code ⟨"PullSaw$Balance", "<init>", "()V"⟩ prog_2_method_1_code 1 none : Cond) ∈ tb_G := tb_in (List.mem_of_getElem? (i := 349) rfl) rfl
theorem tq_350 : (.methodLink "PullSaw$Balance" 3 ⟨"java/lang/Object", "<init>", "()V"⟩ : Cond) ∈ tb_G := tb_in (List.mem_of_getElem? (i := 350) (by decide +kernel)) rfl
theorem tq_351 : (.fieldLink "PullSaw$Balance" 63 "PullSaw$Balance" "fewest" "I" : Cond) ∈ tb_G := tb_in (List.mem_of_getElem? (i := 351) (by decide +kernel)) rfl
theorem tq_352 : (.fieldLink "PullSaw" 285 "PullSaw$Balance" "fewest" "I" : Cond) ∈ tb_G := tb_in (List.mem_of_getElem? (i := 352) (by decide +kernel)) rfl
theorem tq_353 : (.fieldLink "PullSaw$Balance" 28 "PullSaw$Balance" "latestFirst" "I" : Cond) ∈ tb_G := tb_in (List.mem_of_getElem? (i := 353) (by decide +kernel)) rfl
theorem tq_354 : (.fieldLink "PullSaw" 286 "PullSaw$Balance" "latestFirst" "I" : Cond) ∈ tb_G := tb_in (List.mem_of_getElem? (i := 354) (by decide +kernel)) rfl
theorem tq_355 : (.fieldLink "PullSaw$Balance" 18 "PullSaw$Balance" "askew" "I" : Cond) ∈ tb_G := tb_in (List.mem_of_getElem? (i := 355) (by decide +kernel)) rfl
theorem tq_356 : (.fieldLink "PullSaw$Balance" 22 "PullSaw$Balance" "lean" "I" : Cond) ∈ tb_G := tb_in (List.mem_of_getElem? (i := 356) (by decide +kernel)) rfl
theorem tq_357 : (.fieldLink "PullSaw$Balance" 25 "PullSaw$Balance" "most" "I" : Cond) ∈ tb_G := tb_in (List.mem_of_getElem? (i := 357) (by decide +kernel)) rfl
theorem tq_358 : (.fieldLink "PullSaw$Balance" 11 "PullSaw$Balance" "costs" "[I" : Cond) ∈ tb_G := tb_in (List.mem_of_getElem? (i := 358) (by decide +kernel)) rfl
theorem tq_359 : (.fieldLink "PullSaw$Balance" 15 "PullSaw$Balance" "laterCosts" "[I" : Cond) ∈ tb_G := tb_in (List.mem_of_getElem? (i := 359) (by decide +kernel)) rfl
theorem tq_360 : (.lays "PullSaw$Balance" "PullSaw$Balance" "fewest" "I" : Cond) ∈ tb_G := tb_in (List.mem_of_getElem? (i := 360) (by decide +kernel)) rfl
theorem tq_362 : (.lays "PullSaw$Balance" "PullSaw$Balance" "latestFirst" "I" : Cond) ∈ tb_G := tb_in (List.mem_of_getElem? (i := 362) (by decide +kernel)) rfl
theorem tq_364 : (.lays "PullSaw$Balance" "PullSaw$Balance" "askew" "I" : Cond) ∈ tb_G := tb_in (List.mem_of_getElem? (i := 364) (by decide +kernel)) rfl
theorem tq_366 : (.lays "PullSaw$Balance" "PullSaw$Balance" "lean" "I" : Cond) ∈ tb_G := tb_in (List.mem_of_getElem? (i := 366) (by decide +kernel)) rfl
theorem tq_368 : (.lays "PullSaw$Balance" "PullSaw$Balance" "most" "I" : Cond) ∈ tb_G := tb_in (List.mem_of_getElem? (i := 368) (by decide +kernel)) rfl
theorem tq_370 : (.lays "PullSaw$Balance" "PullSaw$Balance" "costs" "[I" : Cond) ∈ tb_G := tb_in (List.mem_of_getElem? (i := 370) (by decide +kernel)) rfl
theorem tq_372 : (.lays "PullSaw$Balance" "PullSaw$Balance" "laterCosts" "[I" : Cond) ∈ tb_G := tb_in (List.mem_of_getElem? (i := 372) (by decide +kernel)) rfl
theorem tq_375 : (.classLink "PullSaw" 51 "PullSaw$Sheet" : Cond) ∈ tb_G := tb_in (List.mem_of_getElem? (i := 375) (by decide +kernel)) rfl
theorem tq_376 : (.methodLink "PullSaw" 53 ⟨"PullSaw$Sheet", "<init>", "(I)V"⟩ : Cond) ∈ tb_G := tb_in (List.mem_of_getElem? (i := 376) (by decide +kernel)) rfl
theorem tq_377 : (.classLink "PullSaw" 63 "PullSaw$Image" : Cond) ∈ tb_G := tb_in (List.mem_of_getElem? (i := 377) (by decide +kernel)) rfl
theorem tq_378 : (.instantiable "PullSaw$Image" 3 : Cond) ∈ tb_G := tb_in (List.mem_of_getElem? (i := 378) (by decide +kernel)) rfl
theorem tq_380 : (.instanceMethod ⟨"PullSaw$Image", "<init>", "()V"⟩ : Cond) ∈ tb_G := tb_in (List.mem_of_getElem? (i := 380) (by decide +kernel)) rfl
set_option maxRecDepth 100000 in
theorem tq_381 : (.code ⟨"PullSaw$Image", "<init>", "()V"⟩ prog_3_method_1_code 1 none : Cond) ∈ tb_G := tb_in (List.mem_of_getElem? (i := 381) rfl) rfl
theorem tq_382 : (.methodLink "PullSaw$Image" 1 ⟨"java/lang/Object", "<init>", "()V"⟩ : Cond) ∈ tb_G := tb_in (List.mem_of_getElem? (i := 382) (by decide +kernel)) rfl
theorem tq_383 : (.classLink "PullSaw$Image" 7 "PullSaw$Work" : Cond) ∈ tb_G := tb_in (List.mem_of_getElem? (i := 383) (by decide +kernel)) rfl
theorem tq_385 : (.fieldLink "PullSaw$Image" 10 "PullSaw$Image" "work" "LPullSaw$Work;" : Cond) ∈ tb_G := tb_in (List.mem_of_getElem? (i := 385) (by decide +kernel)) rfl
theorem tq_386 : (.fieldLink "PullSaw" 321 "PullSaw$Image" "work" "LPullSaw$Work;" : Cond) ∈ tb_G := tb_in (List.mem_of_getElem? (i := 386) (by decide +kernel)) rfl
theorem tq_387 : (.fieldLink "PullSaw" 326 "PullSaw$Image" "seed" "I" : Cond) ∈ tb_G := tb_in (List.mem_of_getElem? (i := 387) (by decide +kernel)) rfl
theorem tq_388 : (.fieldLink "PullSaw" 106 "PullSaw$Image" "kept" "Z" : Cond) ∈ tb_G := tb_in (List.mem_of_getElem? (i := 388) (by decide +kernel)) rfl
theorem tq_389 : (.laysFinal "PullSaw$Image" "PullSaw$Image" "work" "LPullSaw$Work;" : Cond) ∈ tb_G := tb_in (List.mem_of_getElem? (i := 389) (by decide +kernel)) rfl
theorem tq_391 : (.lays "PullSaw$Image" "PullSaw$Image" "seed" "I" : Cond) ∈ tb_G := tb_in (List.mem_of_getElem? (i := 391) (by decide +kernel)) rfl
theorem tq_393 : (.lays "PullSaw$Image" "PullSaw$Image" "kept" "Z" : Cond) ∈ tb_G := tb_in (List.mem_of_getElem? (i := 393) (by decide +kernel)) rfl
theorem tq_396 : (.fieldLink "PullSaw" 10 "PullSaw" "yard" "LPullSaw$Yard;" : Cond) ∈ tb_G := tb_in (List.mem_of_getElem? (i := 396) (by decide +kernel)) rfl
theorem tq_397 : (.fieldLink "PullSaw" 19 "PullSaw" "reader" "LPullSaw$Reader;" : Cond) ∈ tb_G := tb_in (List.mem_of_getElem? (i := 397) (by decide +kernel)) rfl
theorem tq_398 : (.fieldLink "PullSaw" 26 "PullSaw" "now" "LPullSaw$Work;" : Cond) ∈ tb_G := tb_in (List.mem_of_getElem? (i := 398) (by decide +kernel)) rfl
theorem tq_399 : (.fieldLink "PullSaw" 33 "PullSaw" "past" "LPullSaw$Past;" : Cond) ∈ tb_G := tb_in (List.mem_of_getElem? (i := 399) (by decide +kernel)) rfl
theorem tq_400 : (.fieldLink "PullSaw" 40 "PullSaw" "trial" "LPullSaw$Trial;" : Cond) ∈ tb_G := tb_in (List.mem_of_getElem? (i := 400) (by decide +kernel)) rfl
theorem tq_401 : (.fieldLink "PullSaw" 47 "PullSaw" "balance" "LPullSaw$Balance;" : Cond) ∈ tb_G := tb_in (List.mem_of_getElem? (i := 401) (by decide +kernel)) rfl
theorem tq_402 : (.fieldLink "PullSaw" 56 "PullSaw" "seen" "LPullSaw$Sheet;" : Cond) ∈ tb_G := tb_in (List.mem_of_getElem? (i := 402) (by decide +kernel)) rfl
theorem tq_403 : (.fieldLink "PullSaw" 60 "PullSaw" "book" "LPullSaw$Sheet;" : Cond) ∈ tb_G := tb_in (List.mem_of_getElem? (i := 403) (by decide +kernel)) rfl
theorem tq_404 : (.fieldLink "PullSaw" 66 "PullSaw" "first" "LPullSaw$Image;" : Cond) ∈ tb_G := tb_in (List.mem_of_getElem? (i := 404) (by decide +kernel)) rfl
theorem tq_405 : (.fieldLink "PullSaw" 70 "PullSaw" "second" "LPullSaw$Image;" : Cond) ∈ tb_G := tb_in (List.mem_of_getElem? (i := 405) (by decide +kernel)) rfl
theorem tq_406 : (.fieldLink "PullSaw" 318 "PullSaw" "seed" "I" : Cond) ∈ tb_G := tb_in (List.mem_of_getElem? (i := 406) (by decide +kernel)) rfl
theorem tq_407 : (.laysFinal "PullSaw" "PullSaw" "yard" "LPullSaw$Yard;" : Cond) ∈ tb_G := tb_in (List.mem_of_getElem? (i := 407) (by decide +kernel)) rfl
theorem tq_409 : (.laysFinal "PullSaw" "PullSaw" "reader" "LPullSaw$Reader;" : Cond) ∈ tb_G := tb_in (List.mem_of_getElem? (i := 409) (by decide +kernel)) rfl
theorem tq_411 : (.laysFinal "PullSaw" "PullSaw" "now" "LPullSaw$Work;" : Cond) ∈ tb_G := tb_in (List.mem_of_getElem? (i := 411) (by decide +kernel)) rfl
theorem tq_413 : (.laysFinal "PullSaw" "PullSaw" "past" "LPullSaw$Past;" : Cond) ∈ tb_G := tb_in (List.mem_of_getElem? (i := 413) (by decide +kernel)) rfl
theorem tq_415 : (.laysFinal "PullSaw" "PullSaw" "trial" "LPullSaw$Trial;" : Cond) ∈ tb_G := tb_in (List.mem_of_getElem? (i := 415) (by decide +kernel)) rfl
theorem tq_417 : (.laysFinal "PullSaw" "PullSaw" "balance" "LPullSaw$Balance;" : Cond) ∈ tb_G := tb_in (List.mem_of_getElem? (i := 417) (by decide +kernel)) rfl
theorem tq_419 : (.laysFinal "PullSaw" "PullSaw" "seen" "LPullSaw$Sheet;" : Cond) ∈ tb_G := tb_in (List.mem_of_getElem? (i := 419) (by decide +kernel)) rfl
theorem tq_421 : (.laysFinal "PullSaw" "PullSaw" "book" "LPullSaw$Sheet;" : Cond) ∈ tb_G := tb_in (List.mem_of_getElem? (i := 421) (by decide +kernel)) rfl
theorem tq_423 : (.laysFinal "PullSaw" "PullSaw" "first" "LPullSaw$Image;" : Cond) ∈ tb_G := tb_in (List.mem_of_getElem? (i := 423) (by decide +kernel)) rfl
theorem tq_425 : (.laysFinal "PullSaw" "PullSaw" "second" "LPullSaw$Image;" : Cond) ∈ tb_G := tb_in (List.mem_of_getElem? (i := 425) (by decide +kernel)) rfl
theorem tq_427 : (.lays "PullSaw" "PullSaw" "seed" "I" : Cond) ∈ tb_G := tb_in (List.mem_of_getElem? (i := 427) (by decide +kernel)) rfl
theorem tq_430 : (.methodLink "PullSawLaw" 13 ⟨"PullSaw", "feed", "(I)I"⟩ : Cond) ∈ tb_G := tb_in (List.mem_of_getElem? (i := 430) (by decide +kernel)) rfl
theorem tq_431 : (.instanceMethod ⟨"PullSaw", "feed", "(I)I"⟩ : Cond) ∈ tb_G := tb_in (List.mem_of_getElem? (i := 431) (by decide +kernel)) rfl
theorem tq_432 : (.selects "PullSaw" ⟨"PullSaw", "feed", "(I)I"⟩ ⟨"PullSaw", "feed", "(I)I"⟩ : Cond) ∈ tb_G := tb_in (List.mem_of_getElem? (i := 432) (by decide +kernel)) rfl
set_option maxRecDepth 100000 in
theorem tq_433 : (.code ⟨"PullSaw", "feed", "(I)I"⟩ prog_1_method_2_code 2 (some .int) : Cond) ∈ tb_G := tb_in (List.mem_of_getElem? (i := 433) rfl) rfl
theorem tq_434 : (.constant "PullSaw" 73 (-1000000002 : Int32) : Cond) ∈ tb_G := tb_in (List.mem_of_getElem? (i := 434) (by decide +kernel)) rfl
theorem tq_435 : (.methodLink "PullSaw" 77 ⟨"PullSaw$Sheet", "add", "(I)Z"⟩ : Cond) ∈ tb_G := tb_in (List.mem_of_getElem? (i := 435) (by decide +kernel)) rfl
theorem tq_436 : (.instanceMethod ⟨"PullSaw$Sheet", "add", "(I)Z"⟩ : Cond) ∈ tb_G := tb_in (List.mem_of_getElem? (i := 436) (by decide +kernel)) rfl
theorem tq_437 : (.selects "PullSaw$Sheet" ⟨"PullSaw$Sheet", "add", "(I)Z"⟩ ⟨"PullSaw$Sheet", "add", "(I)Z"⟩ : Cond) ∈ tb_G := tb_in (List.mem_of_getElem? (i := 437) (by decide +kernel)) rfl
set_option maxRecDepth 100000 in
theorem tq_438 : (.code ⟨"PullSaw$Sheet", "add", "(I)Z"⟩ prog_7_method_2_code 2 (some .boolean) : Cond) ∈ tb_G := tb_in (List.mem_of_getElem? (i := 438) rfl) rfl
theorem tq_439 : (.methodLink "PullSaw$Sheet" 25 ⟨"PullSaw$Row", "put", "([III)V"⟩ : Cond) ∈ tb_G := tb_in (List.mem_of_getElem? (i := 439) (by decide +kernel)) rfl
theorem tq_440 : (.static ⟨"PullSaw$Row", "put", "([III)V"⟩ : Cond) ∈ tb_G := tb_in (List.mem_of_getElem? (i := 440) (by decide +kernel)) rfl
set_option maxRecDepth 100000 in
theorem tq_441 : (.code ⟨"PullSaw$Row", "put", "([III)V"⟩ prog_6_method_3_code 3 none : Cond) ∈ tb_G := tb_in (List.mem_of_getElem? (i := 441) rfl) rfl
theorem tq_442 : (.constant "PullSaw" 85 (-1000000004 : Int32) : Cond) ∈ tb_G := tb_in (List.mem_of_getElem? (i := 442) (by decide +kernel)) rfl
theorem tq_443 : (.methodLink "PullSawLaw" 18 ⟨"PullSaw", "yard", "()I"⟩ : Cond) ∈ tb_G := tb_in (List.mem_of_getElem? (i := 443) (by decide +kernel)) rfl
theorem tq_444 : (.instanceMethod ⟨"PullSaw", "yard", "()I"⟩ : Cond) ∈ tb_G := tb_in (List.mem_of_getElem? (i := 444) (by decide +kernel)) rfl
theorem tq_445 : (.selects "PullSaw" ⟨"PullSaw", "yard", "()I"⟩ ⟨"PullSaw", "yard", "()I"⟩ : Cond) ∈ tb_G := tb_in (List.mem_of_getElem? (i := 445) (by decide +kernel)) rfl
set_option maxRecDepth 100000 in
theorem tq_446 : (.code ⟨"PullSaw", "yard", "()I"⟩ prog_1_method_3_code 1 (some .int) : Cond) ∈ tb_G := tb_in (List.mem_of_getElem? (i := 446) rfl) rfl
theorem tq_447 : (.methodLink "PullSaw" 86 ⟨"PullSaw$Reader", "readText", "()V"⟩ : Cond) ∈ tb_G := tb_in (List.mem_of_getElem? (i := 447) (by decide +kernel)) rfl
theorem tq_448 : (.instanceMethod ⟨"PullSaw$Reader", "readText", "()V"⟩ : Cond) ∈ tb_G := tb_in (List.mem_of_getElem? (i := 448) (by decide +kernel)) rfl
theorem tq_449 : (.selects "PullSaw$Reader" ⟨"PullSaw$Reader", "readText", "()V"⟩ ⟨"PullSaw$Reader", "readText", "()V"⟩ : Cond) ∈ tb_G := tb_in (List.mem_of_getElem? (i := 449) (by decide +kernel)) rfl
set_option maxRecDepth 100000 in
theorem tq_450 : (.code ⟨"PullSaw$Reader", "readText", "()V"⟩ prog_5_method_2_code 2 none : Cond) ∈ tb_G := tb_in (List.mem_of_getElem? (i := 450) rfl) rfl
theorem tq_451 : (.methodLink "PullSaw$Reader" 31 ⟨"PullSaw$Yard", "clear", "()V"⟩ : Cond) ∈ tb_G := tb_in (List.mem_of_getElem? (i := 451) (by decide +kernel)) rfl
theorem tq_452 : (.instanceMethod ⟨"PullSaw$Yard", "clear", "()V"⟩ : Cond) ∈ tb_G := tb_in (List.mem_of_getElem? (i := 452) (by decide +kernel)) rfl
theorem tq_453 : (.selects "PullSaw$Yard" ⟨"PullSaw$Yard", "clear", "()V"⟩ ⟨"PullSaw$Yard", "clear", "()V"⟩ : Cond) ∈ tb_G := tb_in (List.mem_of_getElem? (i := 453) (by decide +kernel)) rfl
set_option maxRecDepth 100000 in
theorem tq_454 : (.code ⟨"PullSaw$Yard", "clear", "()V"⟩ prog_10_method_2_code 1 none : Cond) ∈ tb_G := tb_in (List.mem_of_getElem? (i := 454) rfl) rfl
theorem tq_455 : (.methodLink "PullSaw$Reader" 47 ⟨"PullSaw$Reader", "skipBlanks", "()V"⟩ : Cond) ∈ tb_G := tb_in (List.mem_of_getElem? (i := 455) (by decide +kernel)) rfl
theorem tq_457 : (.instanceMethod ⟨"PullSaw$Reader", "skipBlanks", "()V"⟩ : Cond) ∈ tb_G := tb_in (List.mem_of_getElem? (i := 457) (by decide +kernel)) rfl
set_option maxRecDepth 100000 in
theorem tq_458 : (.code ⟨"PullSaw$Reader", "skipBlanks", "()V"⟩ prog_5_method_10_code 2 none : Cond) ∈ tb_G := tb_in (List.mem_of_getElem? (i := 458) rfl) rfl
theorem tq_459 : (.methodLink "PullSaw$Reader" 57 ⟨"PullSaw$Sheet", "mark", "(I)I"⟩ : Cond) ∈ tb_G := tb_in (List.mem_of_getElem? (i := 459) (by decide +kernel)) rfl
theorem tq_460 : (.instanceMethod ⟨"PullSaw$Sheet", "mark", "(I)I"⟩ : Cond) ∈ tb_G := tb_in (List.mem_of_getElem? (i := 460) (by decide +kernel)) rfl
theorem tq_461 : (.selects "PullSaw$Sheet" ⟨"PullSaw$Sheet", "mark", "(I)I"⟩ ⟨"PullSaw$Sheet", "mark", "(I)I"⟩ : Cond) ∈ tb_G := tb_in (List.mem_of_getElem? (i := 461) (by decide +kernel)) rfl
set_option maxRecDepth 100000 in
theorem tq_462 : (.code ⟨"PullSaw$Sheet", "mark", "(I)I"⟩ prog_7_method_3_code 2 (some .int) : Cond) ∈ tb_G := tb_in (List.mem_of_getElem? (i := 462) rfl) rfl
theorem tq_463 : (.methodLink "PullSaw$Reader" 53 ⟨"PullSaw$Reader", "readClause", "()V"⟩ : Cond) ∈ tb_G := tb_in (List.mem_of_getElem? (i := 463) (by decide +kernel)) rfl
theorem tq_465 : (.instanceMethod ⟨"PullSaw$Reader", "readClause", "()V"⟩ : Cond) ∈ tb_G := tb_in (List.mem_of_getElem? (i := 465) (by decide +kernel)) rfl
set_option maxRecDepth 100000 in
theorem tq_466 : (.code ⟨"PullSaw$Reader", "readClause", "()V"⟩ prog_5_method_3_code 3 none : Cond) ∈ tb_G := tb_in (List.mem_of_getElem? (i := 466) rfl) rfl
theorem tq_467 : (.methodLink "PullSaw$Reader" 61 ⟨"PullSaw$Reader", "faultOfWord", "(I)I"⟩ : Cond) ∈ tb_G := tb_in (List.mem_of_getElem? (i := 467) (by decide +kernel)) rfl
theorem tq_469 : (.instanceMethod ⟨"PullSaw$Reader", "faultOfWord", "(I)I"⟩ : Cond) ∈ tb_G := tb_in (List.mem_of_getElem? (i := 469) (by decide +kernel)) rfl
set_option maxRecDepth 100000 in
theorem tq_470 : (.code ⟨"PullSaw$Reader", "faultOfWord", "(I)I"⟩ prog_5_method_4_code 4 (some .int) : Cond) ∈ tb_G := tb_in (List.mem_of_getElem? (i := 470) rfl) rfl
theorem tq_471 : (.methodLink "PullSaw$Reader" 64 ⟨"PullSaw$Reader", "markFault", "(II)V"⟩ : Cond) ∈ tb_G := tb_in (List.mem_of_getElem? (i := 471) (by decide +kernel)) rfl
theorem tq_473 : (.instanceMethod ⟨"PullSaw$Reader", "markFault", "(II)V"⟩ : Cond) ∈ tb_G := tb_in (List.mem_of_getElem? (i := 473) (by decide +kernel)) rfl
set_option maxRecDepth 100000 in
theorem tq_474 : (.code ⟨"PullSaw$Reader", "markFault", "(II)V"⟩ prog_5_method_12_code 3 none : Cond) ∈ tb_G := tb_in (List.mem_of_getElem? (i := 474) rfl) rfl
theorem tq_475 : (.methodLink "PullSaw$Reader" 68 ⟨"PullSaw$Reader", "readLayers", "()V"⟩ : Cond) ∈ tb_G := tb_in (List.mem_of_getElem? (i := 475) (by decide +kernel)) rfl
theorem tq_477 : (.instanceMethod ⟨"PullSaw$Reader", "readLayers", "()V"⟩ : Cond) ∈ tb_G := tb_in (List.mem_of_getElem? (i := 477) (by decide +kernel)) rfl
set_option maxRecDepth 100000 in
theorem tq_478 : (.code ⟨"PullSaw$Reader", "readLayers", "()V"⟩ prog_5_method_5_code 2 none : Cond) ∈ tb_G := tb_in (List.mem_of_getElem? (i := 478) rfl) rfl
theorem tq_479 : (.methodLink "PullSaw$Reader" 77 ⟨"PullSaw$Reader", "readNumber", "(II)I"⟩ : Cond) ∈ tb_G := tb_in (List.mem_of_getElem? (i := 479) (by decide +kernel)) rfl
theorem tq_481 : (.instanceMethod ⟨"PullSaw$Reader", "readNumber", "(II)I"⟩ : Cond) ∈ tb_G := tb_in (List.mem_of_getElem? (i := 481) (by decide +kernel)) rfl
set_option maxRecDepth 100000 in
theorem tq_482 : (.code ⟨"PullSaw$Reader", "readNumber", "(II)I"⟩ prog_5_method_9_code 6 (some .int) : Cond) ∈ tb_G := tb_in (List.mem_of_getElem? (i := 482) rfl) rfl
theorem tq_483 : (.methodLink "PullSaw$Reader" 127 ⟨"PullSaw$Reader", "isFigure", "(I)Z"⟩ : Cond) ∈ tb_G := tb_in (List.mem_of_getElem? (i := 483) (by decide +kernel)) rfl
theorem tq_484 : (.static ⟨"PullSaw$Reader", "isFigure", "(I)Z"⟩ : Cond) ∈ tb_G := tb_in (List.mem_of_getElem? (i := 484) (by decide +kernel)) rfl
set_option maxRecDepth 100000 in
theorem tq_485 : (.code ⟨"PullSaw$Reader", "isFigure", "(I)Z"⟩ prog_5_method_11_code 1 (some .boolean) : Cond) ∈ tb_G := tb_in (List.mem_of_getElem? (i := 485) rfl) rfl
theorem tq_486 : (.methodLink "PullSaw$Reader" 97 ⟨"PullSaw$Row", "put", "([III)V"⟩ : Cond) ∈ tb_G := tb_in (List.mem_of_getElem? (i := 486) (by decide +kernel)) rfl
theorem tq_487 : (.methodLink "PullSaw$Reader" 84 ⟨"PullSaw$Reader", "readEnd", "()V"⟩ : Cond) ∈ tb_G := tb_in (List.mem_of_getElem? (i := 487) (by decide +kernel)) rfl
theorem tq_489 : (.instanceMethod ⟨"PullSaw$Reader", "readEnd", "()V"⟩ : Cond) ∈ tb_G := tb_in (List.mem_of_getElem? (i := 489) (by decide +kernel)) rfl
set_option maxRecDepth 100000 in
theorem tq_490 : (.code ⟨"PullSaw$Reader", "readEnd", "()V"⟩ prog_5_method_8_code 1 none : Cond) ∈ tb_G := tb_in (List.mem_of_getElem? (i := 490) rfl) rfl
theorem tq_491 : (.methodLink "PullSaw$Reader" 71 ⟨"PullSaw$Reader", "readPerson", "()V"⟩ : Cond) ∈ tb_G := tb_in (List.mem_of_getElem? (i := 491) (by decide +kernel)) rfl
theorem tq_493 : (.instanceMethod ⟨"PullSaw$Reader", "readPerson", "()V"⟩ : Cond) ∈ tb_G := tb_in (List.mem_of_getElem? (i := 493) (by decide +kernel)) rfl
set_option maxRecDepth 100000 in
theorem tq_494 : (.code ⟨"PullSaw$Reader", "readPerson", "()V"⟩ prog_5_method_6_code 2 none : Cond) ∈ tb_G := tb_in (List.mem_of_getElem? (i := 494) rfl) rfl
theorem tq_495 : (.methodLink "PullSaw$Reader" 74 ⟨"PullSaw$Reader", "readSaw", "()V"⟩ : Cond) ∈ tb_G := tb_in (List.mem_of_getElem? (i := 495) (by decide +kernel)) rfl
theorem tq_497 : (.instanceMethod ⟨"PullSaw$Reader", "readSaw", "()V"⟩ : Cond) ∈ tb_G := tb_in (List.mem_of_getElem? (i := 497) (by decide +kernel)) rfl
set_option maxRecDepth 100000 in
theorem tq_498 : (.code ⟨"PullSaw$Reader", "readSaw", "()V"⟩ prog_5_method_7_code 1 none : Cond) ∈ tb_G := tb_in (List.mem_of_getElem? (i := 498) rfl) rfl
theorem tq_499 : (.methodLink "PullSaw$Reader" 56 ⟨"PullSaw$Sheet", "clear", "()V"⟩ : Cond) ∈ tb_G := tb_in (List.mem_of_getElem? (i := 499) (by decide +kernel)) rfl
theorem tq_500 : (.instanceMethod ⟨"PullSaw$Sheet", "clear", "()V"⟩ : Cond) ∈ tb_G := tb_in (List.mem_of_getElem? (i := 500) (by decide +kernel)) rfl
theorem tq_501 : (.selects "PullSaw$Sheet" ⟨"PullSaw$Sheet", "clear", "()V"⟩ ⟨"PullSaw$Sheet", "clear", "()V"⟩ : Cond) ∈ tb_G := tb_in (List.mem_of_getElem? (i := 501) (by decide +kernel)) rfl
set_option maxRecDepth 100000 in
theorem tq_502 : (.code ⟨"PullSaw$Sheet", "clear", "()V"⟩ prog_7_method_4_code 1 none : Cond) ∈ tb_G := tb_in (List.mem_of_getElem? (i := 502) rfl) rfl
theorem tq_503 : (.methodLink "PullSaw" 95 ⟨"PullSaw$Yard", "become", "(LPullSaw$Yard;)V"⟩ : Cond) ∈ tb_G := tb_in (List.mem_of_getElem? (i := 503) (by decide +kernel)) rfl
theorem tq_504 : (.instanceMethod ⟨"PullSaw$Yard", "become", "(LPullSaw$Yard;)V"⟩ : Cond) ∈ tb_G := tb_in (List.mem_of_getElem? (i := 504) (by decide +kernel)) rfl
theorem tq_505 : (.selects "PullSaw$Yard" ⟨"PullSaw$Yard", "become", "(LPullSaw$Yard;)V"⟩ ⟨"PullSaw$Yard", "become", "(LPullSaw$Yard;)V"⟩ : Cond) ∈ tb_G := tb_in (List.mem_of_getElem? (i := 505) (by decide +kernel)) rfl
set_option maxRecDepth 100000 in
theorem tq_506 : (.code ⟨"PullSaw$Yard", "become", "(LPullSaw$Yard;)V"⟩ prog_10_method_3_code 2 none : Cond) ∈ tb_G := tb_in (List.mem_of_getElem? (i := 506) rfl) rfl
theorem tq_507 : (.methodLink "PullSaw$Yard" 49 ⟨"PullSaw$Row", "copy", "([I[I)V"⟩ : Cond) ∈ tb_G := tb_in (List.mem_of_getElem? (i := 507) (by decide +kernel)) rfl
theorem tq_508 : (.static ⟨"PullSaw$Row", "copy", "([I[I)V"⟩ : Cond) ∈ tb_G := tb_in (List.mem_of_getElem? (i := 508) (by decide +kernel)) rfl
set_option maxRecDepth 100000 in
theorem tq_509 : (.code ⟨"PullSaw$Row", "copy", "([I[I)V"⟩ prog_6_method_4_code 3 none : Cond) ∈ tb_G := tb_in (List.mem_of_getElem? (i := 509) rfl) rfl
theorem tq_510 : (.methodLink "PullSaw" 99 ⟨"PullSaw$Work", "startYard", "(LPullSaw$Yard;)V"⟩ : Cond) ∈ tb_G := tb_in (List.mem_of_getElem? (i := 510) (by decide +kernel)) rfl
theorem tq_511 : (.instanceMethod ⟨"PullSaw$Work", "startYard", "(LPullSaw$Yard;)V"⟩ : Cond) ∈ tb_G := tb_in (List.mem_of_getElem? (i := 511) (by decide +kernel)) rfl
theorem tq_512 : (.selects "PullSaw$Work" ⟨"PullSaw$Work", "startYard", "(LPullSaw$Yard;)V"⟩ ⟨"PullSaw$Work", "startYard", "(LPullSaw$Yard;)V"⟩ : Cond) ∈ tb_G := tb_in (List.mem_of_getElem? (i := 512) (by decide +kernel)) rfl
set_option maxRecDepth 100000 in
theorem tq_513 : (.code ⟨"PullSaw$Work", "startYard", "(LPullSaw$Yard;)V"⟩ prog_9_method_3_code 2 none : Cond) ∈ tb_G := tb_in (List.mem_of_getElem? (i := 513) rfl) rfl
theorem tq_514 : (.methodLink "PullSaw$Work" 59 ⟨"PullSaw$Work", "startLog", "(II)V"⟩ : Cond) ∈ tb_G := tb_in (List.mem_of_getElem? (i := 514) (by decide +kernel)) rfl
theorem tq_515 : (.instanceMethod ⟨"PullSaw$Work", "startLog", "(II)V"⟩ : Cond) ∈ tb_G := tb_in (List.mem_of_getElem? (i := 515) (by decide +kernel)) rfl
theorem tq_516 : (.selects "PullSaw$Work" ⟨"PullSaw$Work", "startLog", "(II)V"⟩ ⟨"PullSaw$Work", "startLog", "(II)V"⟩ : Cond) ∈ tb_G := tb_in (List.mem_of_getElem? (i := 516) (by decide +kernel)) rfl
set_option maxRecDepth 100000 in
theorem tq_517 : (.code ⟨"PullSaw$Work", "startLog", "(II)V"⟩ prog_9_method_4_code 3 none : Cond) ∈ tb_G := tb_in (List.mem_of_getElem? (i := 517) rfl) rfl
theorem tq_518 : (.methodLink "PullSaw$Work" 72 ⟨"PullSaw$Row", "fill", "([II)V"⟩ : Cond) ∈ tb_G := tb_in (List.mem_of_getElem? (i := 518) (by decide +kernel)) rfl
theorem tq_519 : (.static ⟨"PullSaw$Row", "fill", "([II)V"⟩ : Cond) ∈ tb_G := tb_in (List.mem_of_getElem? (i := 519) (by decide +kernel)) rfl
set_option maxRecDepth 100000 in
theorem tq_520 : (.code ⟨"PullSaw$Row", "fill", "([II)V"⟩ prog_6_method_5_code 3 none : Cond) ∈ tb_G := tb_in (List.mem_of_getElem? (i := 520) rfl) rfl
theorem tq_521 : (.methodLink "PullSaw$Work" 53 ⟨"PullSaw$Row", "copy", "([I[I)V"⟩ : Cond) ∈ tb_G := tb_in (List.mem_of_getElem? (i := 521) (by decide +kernel)) rfl
theorem tq_522 : (.methodLink "PullSaw" 102 ⟨"PullSaw$Sheet", "clear", "()V"⟩ : Cond) ∈ tb_G := tb_in (List.mem_of_getElem? (i := 522) (by decide +kernel)) rfl
theorem tq_523 : (.methodLink "PullSaw" 105 ⟨"PullSaw$Past", "clear", "()V"⟩ : Cond) ∈ tb_G := tb_in (List.mem_of_getElem? (i := 523) (by decide +kernel)) rfl
theorem tq_524 : (.instanceMethod ⟨"PullSaw$Past", "clear", "()V"⟩ : Cond) ∈ tb_G := tb_in (List.mem_of_getElem? (i := 524) (by decide +kernel)) rfl
theorem tq_525 : (.selects "PullSaw$Past" ⟨"PullSaw$Past", "clear", "()V"⟩ ⟨"PullSaw$Past", "clear", "()V"⟩ : Cond) ∈ tb_G := tb_in (List.mem_of_getElem? (i := 525) (by decide +kernel)) rfl
set_option maxRecDepth 100000 in
theorem tq_526 : (.code ⟨"PullSaw$Past", "clear", "()V"⟩ prog_4_method_2_code 1 none : Cond) ∈ tb_G := tb_in (List.mem_of_getElem? (i := 526) rfl) rfl
theorem tq_527 : (.methodLink "PullSawLaw" 23 ⟨"PullSaw", "fault", "()I"⟩ : Cond) ∈ tb_G := tb_in (List.mem_of_getElem? (i := 527) (by decide +kernel)) rfl
theorem tq_528 : (.instanceMethod ⟨"PullSaw", "fault", "()I"⟩ : Cond) ∈ tb_G := tb_in (List.mem_of_getElem? (i := 528) (by decide +kernel)) rfl
theorem tq_529 : (.selects "PullSaw" ⟨"PullSaw", "fault", "()I"⟩ ⟨"PullSaw", "fault", "()I"⟩ : Cond) ∈ tb_G := tb_in (List.mem_of_getElem? (i := 529) (by decide +kernel)) rfl
set_option maxRecDepth 100000 in
theorem tq_530 : (.code ⟨"PullSaw", "fault", "()I"⟩ prog_1_method_4_code 1 (some .int) : Cond) ∈ tb_G := tb_in (List.mem_of_getElem? (i := 530) rfl) rfl
theorem tq_531 : (.methodLink "PullSawLaw" 27 ⟨"PullSaw", "told", "(I)I"⟩ : Cond) ∈ tb_G := tb_in (List.mem_of_getElem? (i := 531) (by decide +kernel)) rfl
theorem tq_532 : (.instanceMethod ⟨"PullSaw", "told", "(I)I"⟩ : Cond) ∈ tb_G := tb_in (List.mem_of_getElem? (i := 532) (by decide +kernel)) rfl
theorem tq_533 : (.selects "PullSaw" ⟨"PullSaw", "told", "(I)I"⟩ ⟨"PullSaw", "told", "(I)I"⟩ : Cond) ∈ tb_G := tb_in (List.mem_of_getElem? (i := 533) (by decide +kernel)) rfl
set_option maxRecDepth 100000 in
theorem tq_534 : (.code ⟨"PullSaw", "told", "(I)I"⟩ prog_1_method_5_code 2 (some .int) : Cond) ∈ tb_G := tb_in (List.mem_of_getElem? (i := 534) rfl) rfl
theorem tq_535 : (.methodLink "PullSaw" 155 ⟨"PullSaw$Work", "isThrough", "(LPullSaw$Yard;)Z"⟩ : Cond) ∈ tb_G := tb_in (List.mem_of_getElem? (i := 535) (by decide +kernel)) rfl
theorem tq_536 : (.instanceMethod ⟨"PullSaw$Work", "isThrough", "(LPullSaw$Yard;)Z"⟩ : Cond) ∈ tb_G := tb_in (List.mem_of_getElem? (i := 536) (by decide +kernel)) rfl
theorem tq_537 : (.selects "PullSaw$Work" ⟨"PullSaw$Work", "isThrough", "(LPullSaw$Yard;)Z"⟩ ⟨"PullSaw$Work", "isThrough", "(LPullSaw$Yard;)Z"⟩ : Cond) ∈ tb_G := tb_in (List.mem_of_getElem? (i := 537) (by decide +kernel)) rfl
set_option maxRecDepth 100000 in
theorem tq_538 : (.code ⟨"PullSaw$Work", "isThrough", "(LPullSaw$Yard;)Z"⟩ prog_9_method_6_code 2 (some .boolean) : Cond) ∈ tb_G := tb_in (List.mem_of_getElem? (i := 538) rfl) rfl
theorem tq_539 : (.methodLink "PullSaw$Work" 79 ⟨"PullSaw$Yard", "bottom", "()I"⟩ : Cond) ∈ tb_G := tb_in (List.mem_of_getElem? (i := 539) (by decide +kernel)) rfl
theorem tq_540 : (.instanceMethod ⟨"PullSaw$Yard", "bottom", "()I"⟩ : Cond) ∈ tb_G := tb_in (List.mem_of_getElem? (i := 540) (by decide +kernel)) rfl
theorem tq_541 : (.selects "PullSaw$Yard" ⟨"PullSaw$Yard", "bottom", "()I"⟩ ⟨"PullSaw$Yard", "bottom", "()I"⟩ : Cond) ∈ tb_G := tb_in (List.mem_of_getElem? (i := 541) (by decide +kernel)) rfl
set_option maxRecDepth 100000 in
theorem tq_542 : (.code ⟨"PullSaw$Yard", "bottom", "()I"⟩ prog_10_method_6_code 1 (some .int) : Cond) ∈ tb_G := tb_in (List.mem_of_getElem? (i := 542) rfl) rfl
theorem tq_543 : (.methodLink "PullSawLaw" 31 ⟨"PullSaw", "wood", "(I)I"⟩ : Cond) ∈ tb_G := tb_in (List.mem_of_getElem? (i := 543) (by decide +kernel)) rfl
theorem tq_544 : (.instanceMethod ⟨"PullSaw", "wood", "(I)I"⟩ : Cond) ∈ tb_G := tb_in (List.mem_of_getElem? (i := 544) (by decide +kernel)) rfl
theorem tq_545 : (.selects "PullSaw" ⟨"PullSaw", "wood", "(I)I"⟩ ⟨"PullSaw", "wood", "(I)I"⟩ : Cond) ∈ tb_G := tb_in (List.mem_of_getElem? (i := 545) (by decide +kernel)) rfl
set_option maxRecDepth 100000 in
theorem tq_546 : (.code ⟨"PullSaw", "wood", "(I)I"⟩ prog_1_method_6_code 2 (some .int) : Cond) ∈ tb_G := tb_in (List.mem_of_getElem? (i := 546) rfl) rfl
theorem tq_547 : (.constant "PullSaw" 160 (-1000000001 : Int32) : Cond) ∈ tb_G := tb_in (List.mem_of_getElem? (i := 547) (by decide +kernel)) rfl
theorem tq_548 : (.methodLink "PullSaw" 165 ⟨"PullSaw$Row", "at", "([II)I"⟩ : Cond) ∈ tb_G := tb_in (List.mem_of_getElem? (i := 548) (by decide +kernel)) rfl
theorem tq_549 : (.static ⟨"PullSaw$Row", "at", "([II)I"⟩ : Cond) ∈ tb_G := tb_in (List.mem_of_getElem? (i := 549) (by decide +kernel)) rfl
set_option maxRecDepth 100000 in
theorem tq_550 : (.code ⟨"PullSaw$Row", "at", "([II)I"⟩ prog_6_method_2_code 2 (some .int) : Cond) ∈ tb_G := tb_in (List.mem_of_getElem? (i := 550) rfl) rfl
theorem tq_551 : (.methodLink "PullSawLaw" 35 ⟨"PullSaw", "person", "(II)I"⟩ : Cond) ∈ tb_G := tb_in (List.mem_of_getElem? (i := 551) (by decide +kernel)) rfl
theorem tq_552 : (.instanceMethod ⟨"PullSaw", "person", "(II)I"⟩ : Cond) ∈ tb_G := tb_in (List.mem_of_getElem? (i := 552) (by decide +kernel)) rfl
theorem tq_553 : (.selects "PullSaw" ⟨"PullSaw", "person", "(II)I"⟩ ⟨"PullSaw", "person", "(II)I"⟩ : Cond) ∈ tb_G := tb_in (List.mem_of_getElem? (i := 553) (by decide +kernel)) rfl
set_option maxRecDepth 100000 in
theorem tq_554 : (.code ⟨"PullSaw", "person", "(II)I"⟩ prog_1_method_7_code 3 (some .int) : Cond) ∈ tb_G := tb_in (List.mem_of_getElem? (i := 554) rfl) rfl
theorem tq_555 : (.methodLink "PullSaw" 171 ⟨"PullSaw$Yard", "hasPerson", "(I)Z"⟩ : Cond) ∈ tb_G := tb_in (List.mem_of_getElem? (i := 555) (by decide +kernel)) rfl
theorem tq_556 : (.instanceMethod ⟨"PullSaw$Yard", "hasPerson", "(I)Z"⟩ : Cond) ∈ tb_G := tb_in (List.mem_of_getElem? (i := 556) (by decide +kernel)) rfl
theorem tq_557 : (.selects "PullSaw$Yard" ⟨"PullSaw$Yard", "hasPerson", "(I)Z"⟩ ⟨"PullSaw$Yard", "hasPerson", "(I)Z"⟩ : Cond) ∈ tb_G := tb_in (List.mem_of_getElem? (i := 557) (by decide +kernel)) rfl
set_option maxRecDepth 100000 in
theorem tq_558 : (.code ⟨"PullSaw$Yard", "hasPerson", "(I)Z"⟩ prog_10_method_4_code 2 (some .boolean) : Cond) ∈ tb_G := tb_in (List.mem_of_getElem? (i := 558) rfl) rfl
theorem tq_559 : (.methodLink "PullSawLaw" 40 ⟨"PullSaw", "log", "(II)I"⟩ : Cond) ∈ tb_G := tb_in (List.mem_of_getElem? (i := 559) (by decide +kernel)) rfl
theorem tq_560 : (.instanceMethod ⟨"PullSaw", "log", "(II)I"⟩ : Cond) ∈ tb_G := tb_in (List.mem_of_getElem? (i := 560) (by decide +kernel)) rfl
theorem tq_561 : (.selects "PullSaw" ⟨"PullSaw", "log", "(II)I"⟩ ⟨"PullSaw", "log", "(II)I"⟩ : Cond) ∈ tb_G := tb_in (List.mem_of_getElem? (i := 561) (by decide +kernel)) rfl
set_option maxRecDepth 100000 in
theorem tq_562 : (.code ⟨"PullSaw", "log", "(II)I"⟩ prog_1_method_8_code 4 (some .int) : Cond) ∈ tb_G := tb_in (List.mem_of_getElem? (i := 562) rfl) rfl
theorem tq_563 : (.methodLink "PullSaw" 198 ⟨"PullSaw", "refusalOfTwo", "(II)I"⟩ : Cond) ∈ tb_G := tb_in (List.mem_of_getElem? (i := 563) (by decide +kernel)) rfl
theorem tq_565 : (.instanceMethod ⟨"PullSaw", "refusalOfTwo", "(II)I"⟩ : Cond) ∈ tb_G := tb_in (List.mem_of_getElem? (i := 565) (by decide +kernel)) rfl
set_option maxRecDepth 100000 in
theorem tq_566 : (.code ⟨"PullSaw", "refusalOfTwo", "(II)I"⟩ prog_1_method_39_code 3 (some .int) : Cond) ∈ tb_G := tb_in (List.mem_of_getElem? (i := 566) rfl) rfl
theorem tq_567 : (.methodLink "PullSaw" 255 ⟨"PullSaw$Yard", "hasTwo", "(II)Z"⟩ : Cond) ∈ tb_G := tb_in (List.mem_of_getElem? (i := 567) (by decide +kernel)) rfl
theorem tq_568 : (.instanceMethod ⟨"PullSaw$Yard", "hasTwo", "(II)Z"⟩ : Cond) ∈ tb_G := tb_in (List.mem_of_getElem? (i := 568) (by decide +kernel)) rfl
theorem tq_569 : (.selects "PullSaw$Yard" ⟨"PullSaw$Yard", "hasTwo", "(II)Z"⟩ ⟨"PullSaw$Yard", "hasTwo", "(II)Z"⟩ : Cond) ∈ tb_G := tb_in (List.mem_of_getElem? (i := 569) (by decide +kernel)) rfl
set_option maxRecDepth 100000 in
theorem tq_570 : (.code ⟨"PullSaw$Yard", "hasTwo", "(II)Z"⟩ prog_10_method_5_code 3 (some .boolean) : Cond) ∈ tb_G := tb_in (List.mem_of_getElem? (i := 570) rfl) rfl
theorem tq_571 : (.methodLink "PullSaw$Yard" 55 ⟨"PullSaw$Yard", "hasPerson", "(I)Z"⟩ : Cond) ∈ tb_G := tb_in (List.mem_of_getElem? (i := 571) (by decide +kernel)) rfl
theorem tq_572 : (.constant "PullSaw" 225 (-1000000003 : Int32) : Cond) ∈ tb_G := tb_in (List.mem_of_getElem? (i := 572) (by decide +kernel)) rfl
theorem tq_573 : (.methodLink "PullSaw" 202 ⟨"PullSaw$Work", "startLog", "(II)V"⟩ : Cond) ∈ tb_G := tb_in (List.mem_of_getElem? (i := 573) (by decide +kernel)) rfl
theorem tq_574 : (.methodLink "PullSawLaw" 44 ⟨"PullSaw", "stroke", "(I)I"⟩ : Cond) ∈ tb_G := tb_in (List.mem_of_getElem? (i := 574) (by decide +kernel)) rfl
theorem tq_575 : (.instanceMethod ⟨"PullSaw", "stroke", "(I)I"⟩ : Cond) ∈ tb_G := tb_in (List.mem_of_getElem? (i := 575) (by decide +kernel)) rfl
theorem tq_576 : (.selects "PullSaw" ⟨"PullSaw", "stroke", "(I)I"⟩ ⟨"PullSaw", "stroke", "(I)I"⟩ : Cond) ∈ tb_G := tb_in (List.mem_of_getElem? (i := 576) (by decide +kernel)) rfl
set_option maxRecDepth 100000 in
theorem tq_577 : (.code ⟨"PullSaw", "stroke", "(I)I"⟩ prog_1_method_9_code 5 (some .int) : Cond) ∈ tb_G := tb_in (List.mem_of_getElem? (i := 577) rfl) rfl
theorem tq_578 : (.methodLink "PullSaw" 206 ⟨"PullSaw", "refusalOfSawing", "(I)I"⟩ : Cond) ∈ tb_G := tb_in (List.mem_of_getElem? (i := 578) (by decide +kernel)) rfl
theorem tq_580 : (.instanceMethod ⟨"PullSaw", "refusalOfSawing", "(I)I"⟩ : Cond) ∈ tb_G := tb_in (List.mem_of_getElem? (i := 580) (by decide +kernel)) rfl
set_option maxRecDepth 100000 in
theorem tq_581 : (.code ⟨"PullSaw", "refusalOfSawing", "(I)I"⟩ prog_1_method_40_code 2 (some .int) : Cond) ∈ tb_G := tb_in (List.mem_of_getElem? (i := 581) rfl) rfl
theorem tq_582 : (.methodLink "PullSaw" 229 ⟨"PullSaw", "isWithin", "(III)Z"⟩ : Cond) ∈ tb_G := tb_in (List.mem_of_getElem? (i := 582) (by decide +kernel)) rfl
theorem tq_583 : (.static ⟨"PullSaw", "isWithin", "(III)Z"⟩ : Cond) ∈ tb_G := tb_in (List.mem_of_getElem? (i := 583) (by decide +kernel)) rfl
set_option maxRecDepth 100000 in
theorem tq_584 : (.code ⟨"PullSaw", "isWithin", "(III)Z"⟩ prog_1_method_37_code 3 (some .boolean) : Cond) ∈ tb_G := tb_in (List.mem_of_getElem? (i := 584) rfl) rfl
theorem tq_585 : (.methodLink "PullSaw" 221 ⟨"PullSaw$Work", "hasPair", "()Z"⟩ : Cond) ∈ tb_G := tb_in (List.mem_of_getElem? (i := 585) (by decide +kernel)) rfl
theorem tq_586 : (.instanceMethod ⟨"PullSaw$Work", "hasPair", "()Z"⟩ : Cond) ∈ tb_G := tb_in (List.mem_of_getElem? (i := 586) (by decide +kernel)) rfl
theorem tq_587 : (.selects "PullSaw$Work" ⟨"PullSaw$Work", "hasPair", "()Z"⟩ ⟨"PullSaw$Work", "hasPair", "()Z"⟩ : Cond) ∈ tb_G := tb_in (List.mem_of_getElem? (i := 587) (by decide +kernel)) rfl
set_option maxRecDepth 100000 in
theorem tq_588 : (.code ⟨"PullSaw$Work", "hasPair", "()Z"⟩ prog_9_method_5_code 1 (some .boolean) : Cond) ∈ tb_G := tb_in (List.mem_of_getElem? (i := 588) rfl) rfl
theorem tq_589 : (.methodLink "PullSaw" 210 ⟨"PullSaw$Past", "remember", "(LPullSaw$Work;)V"⟩ : Cond) ∈ tb_G := tb_in (List.mem_of_getElem? (i := 589) (by decide +kernel)) rfl
theorem tq_590 : (.instanceMethod ⟨"PullSaw$Past", "remember", "(LPullSaw$Work;)V"⟩ : Cond) ∈ tb_G := tb_in (List.mem_of_getElem? (i := 590) (by decide +kernel)) rfl
theorem tq_591 : (.selects "PullSaw$Past" ⟨"PullSaw$Past", "remember", "(LPullSaw$Work;)V"⟩ ⟨"PullSaw$Past", "remember", "(LPullSaw$Work;)V"⟩ : Cond) ∈ tb_G := tb_in (List.mem_of_getElem? (i := 591) (by decide +kernel)) rfl
set_option maxRecDepth 100000 in
theorem tq_592 : (.code ⟨"PullSaw$Past", "remember", "(LPullSaw$Work;)V"⟩ prog_4_method_3_code 3 none : Cond) ∈ tb_G := tb_in (List.mem_of_getElem? (i := 592) rfl) rfl
theorem tq_593 : (.methodLink "PullSaw$Past" 25 ⟨"PullSaw$Past", "placeAt", "(I)LPullSaw$Work;"⟩ : Cond) ∈ tb_G := tb_in (List.mem_of_getElem? (i := 593) (by decide +kernel)) rfl
theorem tq_595 : (.instanceMethod ⟨"PullSaw$Past", "placeAt", "(I)LPullSaw$Work;"⟩ : Cond) ∈ tb_G := tb_in (List.mem_of_getElem? (i := 595) (by decide +kernel)) rfl
set_option maxRecDepth 100000 in
theorem tq_596 : (.code ⟨"PullSaw$Past", "placeAt", "(I)LPullSaw$Work;"⟩ prog_4_method_5_code 2 (some (.object "PullSaw$Work")) : Cond) ∈ tb_G := tb_in (List.mem_of_getElem? (i := 596) rfl) rfl
theorem tq_597 : (.methodLink "PullSaw$Past" 29 ⟨"PullSaw$Work", "become", "(LPullSaw$Work;)V"⟩ : Cond) ∈ tb_G := tb_in (List.mem_of_getElem? (i := 597) (by decide +kernel)) rfl
theorem tq_598 : (.instanceMethod ⟨"PullSaw$Work", "become", "(LPullSaw$Work;)V"⟩ : Cond) ∈ tb_G := tb_in (List.mem_of_getElem? (i := 598) (by decide +kernel)) rfl
theorem tq_599 : (.selects "PullSaw$Work" ⟨"PullSaw$Work", "become", "(LPullSaw$Work;)V"⟩ ⟨"PullSaw$Work", "become", "(LPullSaw$Work;)V"⟩ : Cond) ∈ tb_G := tb_in (List.mem_of_getElem? (i := 599) (by decide +kernel)) rfl
set_option maxRecDepth 100000 in
theorem tq_600 : (.code ⟨"PullSaw$Work", "become", "(LPullSaw$Work;)V"⟩ prog_9_method_2_code 2 none : Cond) ∈ tb_G := tb_in (List.mem_of_getElem? (i := 600) rfl) rfl
theorem tq_601 : (.methodLink "PullSaw$Past" 33 ⟨"java/lang/Math", "min", "(II)I"⟩ : Cond) ∈ tb_G := tb_in (List.mem_of_getElem? (i := 601) (by decide +kernel)) rfl
theorem tq_602 : (.static ⟨"java/lang/Math", "min", "(II)I"⟩ : Cond) ∈ tb_G := tb_in (List.mem_of_getElem? (i := 602) (by decide +kernel)) rfl
set_option maxRecDepth 100000 in
theorem tq_603 : (.code ⟨"java/lang/Math", "min", "(II)I"⟩ prog_14_method_69_code 2 (some .int) : Cond) ∈ tb_G := tb_in (List.mem_of_getElem? (i := 603) rfl) rfl
theorem tq_604 : (.methodLink "PullSaw" 214 ⟨"PullSaw$Work", "pullOnce", "(LPullSaw$Yard;)I"⟩ : Cond) ∈ tb_G := tb_in (List.mem_of_getElem? (i := 604) (by decide +kernel)) rfl
theorem tq_605 : (.instanceMethod ⟨"PullSaw$Work", "pullOnce", "(LPullSaw$Yard;)I"⟩ : Cond) ∈ tb_G := tb_in (List.mem_of_getElem? (i := 605) (by decide +kernel)) rfl
theorem tq_606 : (.selects "PullSaw$Work" ⟨"PullSaw$Work", "pullOnce", "(LPullSaw$Yard;)I"⟩ ⟨"PullSaw$Work", "pullOnce", "(LPullSaw$Yard;)I"⟩ : Cond) ∈ tb_G := tb_in (List.mem_of_getElem? (i := 606) (by decide +kernel)) rfl
set_option maxRecDepth 100000 in
theorem tq_607 : (.code ⟨"PullSaw$Work", "pullOnce", "(LPullSaw$Yard;)I"⟩ prog_9_method_10_code 6 (some .int) : Cond) ∈ tb_G := tb_in (List.mem_of_getElem? (i := 607) rfl) rfl
theorem tq_608 : (.methodLink "PullSaw$Work" 86 ⟨"PullSaw$Row", "at", "([II)I"⟩ : Cond) ∈ tb_G := tb_in (List.mem_of_getElem? (i := 608) (by decide +kernel)) rfl
theorem tq_609 : (.methodLink "PullSaw$Work" 93 ⟨"PullSaw$Work", "pullOf", "(LPullSaw$Yard;II)I"⟩ : Cond) ∈ tb_G := tb_in (List.mem_of_getElem? (i := 609) (by decide +kernel)) rfl
theorem tq_611 : (.instanceMethod ⟨"PullSaw$Work", "pullOf", "(LPullSaw$Yard;II)I"⟩ : Cond) ∈ tb_G := tb_in (List.mem_of_getElem? (i := 611) (by decide +kernel)) rfl
set_option maxRecDepth 100000 in
theorem tq_612 : (.code ⟨"PullSaw$Work", "pullOf", "(LPullSaw$Yard;II)I"⟩ prog_9_method_11_code 6 (some .int) : Cond) ∈ tb_G := tb_in (List.mem_of_getElem? (i := 612) rfl) rfl
theorem tq_613 : (.methodLink "PullSaw$Work" 101 ⟨"java/lang/Math", "min", "(II)I"⟩ : Cond) ∈ tb_G := tb_in (List.mem_of_getElem? (i := 613) (by decide +kernel)) rfl
theorem tq_614 : (.methodLink "PullSaw$Work" 128 ⟨"java/lang/Math", "max", "(II)I"⟩ : Cond) ∈ tb_G := tb_in (List.mem_of_getElem? (i := 614) (by decide +kernel)) rfl
theorem tq_615 : (.methodLink "PullSaw$Work" 110 ⟨"PullSaw$Work", "buckles", "(LPullSaw$Yard;I)Z"⟩ : Cond) ∈ tb_G := tb_in (List.mem_of_getElem? (i := 615) (by decide +kernel)) rfl
theorem tq_616 : (.static ⟨"PullSaw$Work", "buckles", "(LPullSaw$Yard;I)Z"⟩ : Cond) ∈ tb_G := tb_in (List.mem_of_getElem? (i := 616) (by decide +kernel)) rfl
set_option maxRecDepth 100000 in
theorem tq_617 : (.code ⟨"PullSaw$Work", "buckles", "(LPullSaw$Yard;I)Z"⟩ prog_9_method_12_code 2 (some .boolean) : Cond) ∈ tb_G := tb_in (List.mem_of_getElem? (i := 617) rfl) rfl
theorem tq_618 : (.methodLink "PullSaw$Work" 97 ⟨"PullSaw$Work", "cutBy", "(LPullSaw$Yard;I)I"⟩ : Cond) ∈ tb_G := tb_in (List.mem_of_getElem? (i := 618) (by decide +kernel)) rfl
theorem tq_620 : (.instanceMethod ⟨"PullSaw$Work", "cutBy", "(LPullSaw$Yard;I)I"⟩ : Cond) ∈ tb_G := tb_in (List.mem_of_getElem? (i := 620) (by decide +kernel)) rfl
set_option maxRecDepth 100000 in
theorem tq_621 : (.code ⟨"PullSaw$Work", "cutBy", "(LPullSaw$Yard;I)I"⟩ prog_9_method_13_code 4 (some .int) : Cond) ∈ tb_G := tb_in (List.mem_of_getElem? (i := 621) rfl) rfl
theorem tq_622 : (.methodLink "PullSaw$Work" 90 ⟨"PullSaw$Work", "tire", "(II)V"⟩ : Cond) ∈ tb_G := tb_in (List.mem_of_getElem? (i := 622) (by decide +kernel)) rfl
theorem tq_624 : (.instanceMethod ⟨"PullSaw$Work", "tire", "(II)V"⟩ : Cond) ∈ tb_G := tb_in (List.mem_of_getElem? (i := 624) (by decide +kernel)) rfl
set_option maxRecDepth 100000 in
theorem tq_625 : (.code ⟨"PullSaw$Work", "tire", "(II)V"⟩ prog_9_method_14_code 3 none : Cond) ∈ tb_G := tb_in (List.mem_of_getElem? (i := 625) rfl) rfl
theorem tq_626 : (.methodLink "PullSaw$Work" 140 ⟨"PullSaw$Row", "put", "([III)V"⟩ : Cond) ∈ tb_G := tb_in (List.mem_of_getElem? (i := 626) (by decide +kernel)) rfl
theorem tq_627 : (.methodLink "PullSaw$Work" 120 ⟨"PullSaw$Work", "feel", "(III)V"⟩ : Cond) ∈ tb_G := tb_in (List.mem_of_getElem? (i := 627) (by decide +kernel)) rfl
theorem tq_629 : (.instanceMethod ⟨"PullSaw$Work", "feel", "(III)V"⟩ : Cond) ∈ tb_G := tb_in (List.mem_of_getElem? (i := 629) (by decide +kernel)) rfl
set_option maxRecDepth 100000 in
theorem tq_630 : (.code ⟨"PullSaw$Work", "feel", "(III)V"⟩ prog_9_method_15_code 5 none : Cond) ∈ tb_G := tb_in (List.mem_of_getElem? (i := 630) rfl) rfl
theorem tq_631 : (.methodLink "PullSaw$Work" 124 ⟨"PullSaw$Work", "lean", "(LPullSaw$Yard;)I"⟩ : Cond) ∈ tb_G := tb_in (List.mem_of_getElem? (i := 631) (by decide +kernel)) rfl
theorem tq_632 : (.instanceMethod ⟨"PullSaw$Work", "lean", "(LPullSaw$Yard;)I"⟩ : Cond) ∈ tb_G := tb_in (List.mem_of_getElem? (i := 632) (by decide +kernel)) rfl
theorem tq_633 : (.selects "PullSaw$Work" ⟨"PullSaw$Work", "lean", "(LPullSaw$Yard;)I"⟩ ⟨"PullSaw$Work", "lean", "(LPullSaw$Yard;)I"⟩ : Cond) ∈ tb_G := tb_in (List.mem_of_getElem? (i := 633) (by decide +kernel)) rfl
set_option maxRecDepth 100000 in
theorem tq_634 : (.code ⟨"PullSaw$Work", "lean", "(LPullSaw$Yard;)I"⟩ prog_9_method_7_code 2 (some .int) : Cond) ∈ tb_G := tb_in (List.mem_of_getElem? (i := 634) rfl) rfl
theorem tq_635 : (.methodLink "PullSawLaw" 48 ⟨"PullSaw", "rest", "(I)I"⟩ : Cond) ∈ tb_G := tb_in (List.mem_of_getElem? (i := 635) (by decide +kernel)) rfl
theorem tq_636 : (.instanceMethod ⟨"PullSaw", "rest", "(I)I"⟩ : Cond) ∈ tb_G := tb_in (List.mem_of_getElem? (i := 636) (by decide +kernel)) rfl
theorem tq_637 : (.selects "PullSaw" ⟨"PullSaw", "rest", "(I)I"⟩ ⟨"PullSaw", "rest", "(I)I"⟩ : Cond) ∈ tb_G := tb_in (List.mem_of_getElem? (i := 637) (by decide +kernel)) rfl
set_option maxRecDepth 100000 in
theorem tq_638 : (.code ⟨"PullSaw", "rest", "(I)I"⟩ prog_1_method_10_code 3 (some .int) : Cond) ∈ tb_G := tb_in (List.mem_of_getElem? (i := 638) rfl) rfl
theorem tq_639 : (.methodLink "PullSaw" 218 ⟨"PullSaw$Work", "restFor", "(I)V"⟩ : Cond) ∈ tb_G := tb_in (List.mem_of_getElem? (i := 639) (by decide +kernel)) rfl
theorem tq_640 : (.instanceMethod ⟨"PullSaw$Work", "restFor", "(I)V"⟩ : Cond) ∈ tb_G := tb_in (List.mem_of_getElem? (i := 640) (by decide +kernel)) rfl
theorem tq_641 : (.selects "PullSaw$Work" ⟨"PullSaw$Work", "restFor", "(I)V"⟩ ⟨"PullSaw$Work", "restFor", "(I)V"⟩ : Cond) ∈ tb_G := tb_in (List.mem_of_getElem? (i := 641) (by decide +kernel)) rfl
set_option maxRecDepth 100000 in
theorem tq_642 : (.code ⟨"PullSaw$Work", "restFor", "(I)V"⟩ prog_9_method_9_code 2 none : Cond) ∈ tb_G := tb_in (List.mem_of_getElem? (i := 642) rfl) rfl
theorem tq_643 : (.methodLink "PullSawLaw" 52 ⟨"PullSaw", "sides", "()I"⟩ : Cond) ∈ tb_G := tb_in (List.mem_of_getElem? (i := 643) (by decide +kernel)) rfl
theorem tq_644 : (.instanceMethod ⟨"PullSaw", "sides", "()I"⟩ : Cond) ∈ tb_G := tb_in (List.mem_of_getElem? (i := 644) (by decide +kernel)) rfl
theorem tq_645 : (.selects "PullSaw" ⟨"PullSaw", "sides", "()I"⟩ ⟨"PullSaw", "sides", "()I"⟩ : Cond) ∈ tb_G := tb_in (List.mem_of_getElem? (i := 645) (by decide +kernel)) rfl
set_option maxRecDepth 100000 in
theorem tq_646 : (.code ⟨"PullSaw", "sides", "()I"⟩ prog_1_method_11_code 1 (some .int) : Cond) ∈ tb_G := tb_in (List.mem_of_getElem? (i := 646) rfl) rfl
theorem tq_647 : (.methodLink "PullSaw" 226 ⟨"PullSaw$Work", "changeSides", "()V"⟩ : Cond) ∈ tb_G := tb_in (List.mem_of_getElem? (i := 647) (by decide +kernel)) rfl
theorem tq_648 : (.instanceMethod ⟨"PullSaw$Work", "changeSides", "()V"⟩ : Cond) ∈ tb_G := tb_in (List.mem_of_getElem? (i := 648) (by decide +kernel)) rfl
theorem tq_649 : (.selects "PullSaw$Work" ⟨"PullSaw$Work", "changeSides", "()V"⟩ ⟨"PullSaw$Work", "changeSides", "()V"⟩ : Cond) ∈ tb_G := tb_in (List.mem_of_getElem? (i := 649) (by decide +kernel)) rfl
set_option maxRecDepth 100000 in
theorem tq_650 : (.code ⟨"PullSaw$Work", "changeSides", "()V"⟩ prog_9_method_8_code 2 none : Cond) ∈ tb_G := tb_in (List.mem_of_getElem? (i := 650) rfl) rfl
theorem tq_651 : (.methodLink "PullSawLaw" 56 ⟨"PullSaw", "oil", "()I"⟩ : Cond) ∈ tb_G := tb_in (List.mem_of_getElem? (i := 651) (by decide +kernel)) rfl
theorem tq_652 : (.instanceMethod ⟨"PullSaw", "oil", "()I"⟩ : Cond) ∈ tb_G := tb_in (List.mem_of_getElem? (i := 652) (by decide +kernel)) rfl
theorem tq_653 : (.selects "PullSaw" ⟨"PullSaw", "oil", "()I"⟩ ⟨"PullSaw", "oil", "()I"⟩ : Cond) ∈ tb_G := tb_in (List.mem_of_getElem? (i := 653) (by decide +kernel)) rfl
set_option maxRecDepth 100000 in
theorem tq_654 : (.code ⟨"PullSaw", "oil", "()I"⟩ prog_1_method_12_code 2 (some .int) : Cond) ∈ tb_G := tb_in (List.mem_of_getElem? (i := 654) rfl) rfl
theorem tq_655 : (.methodLink "PullSawLaw" 60 ⟨"PullSaw", "wedge", "()I"⟩ : Cond) ∈ tb_G := tb_in (List.mem_of_getElem? (i := 655) (by decide +kernel)) rfl
theorem tq_656 : (.instanceMethod ⟨"PullSaw", "wedge", "()I"⟩ : Cond) ∈ tb_G := tb_in (List.mem_of_getElem? (i := 656) (by decide +kernel)) rfl
theorem tq_657 : (.selects "PullSaw" ⟨"PullSaw", "wedge", "()I"⟩ ⟨"PullSaw", "wedge", "()I"⟩ : Cond) ∈ tb_G := tb_in (List.mem_of_getElem? (i := 657) (by decide +kernel)) rfl
set_option maxRecDepth 100000 in
theorem tq_658 : (.code ⟨"PullSaw", "wedge", "()I"⟩ prog_1_method_13_code 1 (some .int) : Cond) ∈ tb_G := tb_in (List.mem_of_getElem? (i := 658) rfl) rfl
theorem tq_659 : (.methodLink "PullSawLaw" 64 ⟨"PullSaw", "file", "()I"⟩ : Cond) ∈ tb_G := tb_in (List.mem_of_getElem? (i := 659) (by decide +kernel)) rfl
theorem tq_660 : (.instanceMethod ⟨"PullSaw", "file", "()I"⟩ : Cond) ∈ tb_G := tb_in (List.mem_of_getElem? (i := 660) (by decide +kernel)) rfl
theorem tq_661 : (.selects "PullSaw" ⟨"PullSaw", "file", "()I"⟩ ⟨"PullSaw", "file", "()I"⟩ : Cond) ∈ tb_G := tb_in (List.mem_of_getElem? (i := 661) (by decide +kernel)) rfl
set_option maxRecDepth 100000 in
theorem tq_662 : (.code ⟨"PullSaw", "file", "()I"⟩ prog_1_method_14_code 1 (some .int) : Cond) ∈ tb_G := tb_in (List.mem_of_getElem? (i := 662) rfl) rfl
theorem tq_663 : (.methodLink "PullSawLaw" 68 ⟨"PullSaw", "wish", "(II)I"⟩ : Cond) ∈ tb_G := tb_in (List.mem_of_getElem? (i := 663) (by decide +kernel)) rfl
theorem tq_664 : (.instanceMethod ⟨"PullSaw", "wish", "(II)I"⟩ : Cond) ∈ tb_G := tb_in (List.mem_of_getElem? (i := 664) (by decide +kernel)) rfl
theorem tq_665 : (.selects "PullSaw" ⟨"PullSaw", "wish", "(II)I"⟩ ⟨"PullSaw", "wish", "(II)I"⟩ : Cond) ∈ tb_G := tb_in (List.mem_of_getElem? (i := 665) (by decide +kernel)) rfl
set_option maxRecDepth 100000 in
theorem tq_666 : (.code ⟨"PullSaw", "wish", "(II)I"⟩ prog_1_method_15_code 3 (some .int) : Cond) ∈ tb_G := tb_in (List.mem_of_getElem? (i := 666) rfl) rfl
theorem tq_667 : (.methodLink "PullSaw" 233 ⟨"PullSaw", "changeRow", "([III)I"⟩ : Cond) ∈ tb_G := tb_in (List.mem_of_getElem? (i := 667) (by decide +kernel)) rfl
theorem tq_669 : (.instanceMethod ⟨"PullSaw", "changeRow", "([III)I"⟩ : Cond) ∈ tb_G := tb_in (List.mem_of_getElem? (i := 669) (by decide +kernel)) rfl
set_option maxRecDepth 100000 in
theorem tq_670 : (.code ⟨"PullSaw", "changeRow", "([III)I"⟩ prog_1_method_41_code 5 (some .int) : Cond) ∈ tb_G := tb_in (List.mem_of_getElem? (i := 670) rfl) rfl
theorem tq_671 : (.methodLink "PullSaw" 327 ⟨"PullSaw$Row", "put", "([III)V"⟩ : Cond) ∈ tb_G := tb_in (List.mem_of_getElem? (i := 671) (by decide +kernel)) rfl
theorem tq_672 : (.methodLink "PullSawLaw" 72 ⟨"PullSaw", "habit", "(II)I"⟩ : Cond) ∈ tb_G := tb_in (List.mem_of_getElem? (i := 672) (by decide +kernel)) rfl
theorem tq_673 : (.instanceMethod ⟨"PullSaw", "habit", "(II)I"⟩ : Cond) ∈ tb_G := tb_in (List.mem_of_getElem? (i := 673) (by decide +kernel)) rfl
theorem tq_674 : (.selects "PullSaw" ⟨"PullSaw", "habit", "(II)I"⟩ ⟨"PullSaw", "habit", "(II)I"⟩ : Cond) ∈ tb_G := tb_in (List.mem_of_getElem? (i := 674) (by decide +kernel)) rfl
set_option maxRecDepth 100000 in
theorem tq_675 : (.code ⟨"PullSaw", "habit", "(II)I"⟩ prog_1_method_16_code 3 (some .int) : Cond) ∈ tb_G := tb_in (List.mem_of_getElem? (i := 675) rfl) rfl
theorem tq_676 : (.methodLink "PullSawLaw" 76 ⟨"PullSaw", "drift", "(I)I"⟩ : Cond) ∈ tb_G := tb_in (List.mem_of_getElem? (i := 676) (by decide +kernel)) rfl
theorem tq_677 : (.instanceMethod ⟨"PullSaw", "drift", "(I)I"⟩ : Cond) ∈ tb_G := tb_in (List.mem_of_getElem? (i := 677) (by decide +kernel)) rfl
theorem tq_678 : (.selects "PullSaw" ⟨"PullSaw", "drift", "(I)I"⟩ ⟨"PullSaw", "drift", "(I)I"⟩ : Cond) ∈ tb_G := tb_in (List.mem_of_getElem? (i := 678) (by decide +kernel)) rfl
set_option maxRecDepth 100000 in
theorem tq_679 : (.code ⟨"PullSaw", "drift", "(I)I"⟩ prog_1_method_17_code 4 (some .int) : Cond) ∈ tb_G := tb_in (List.mem_of_getElem? (i := 679) rfl) rfl
theorem tq_680 : (.methodLink "PullSaw" 237 ⟨"PullSaw", "driftOnce", "()V"⟩ : Cond) ∈ tb_G := tb_in (List.mem_of_getElem? (i := 680) (by decide +kernel)) rfl
theorem tq_682 : (.instanceMethod ⟨"PullSaw", "driftOnce", "()V"⟩ : Cond) ∈ tb_G := tb_in (List.mem_of_getElem? (i := 682) (by decide +kernel)) rfl
set_option maxRecDepth 100000 in
theorem tq_683 : (.code ⟨"PullSaw", "driftOnce", "()V"⟩ prog_1_method_43_code 1 none : Cond) ∈ tb_G := tb_in (List.mem_of_getElem? (i := 683) rfl) rfl
theorem tq_684 : (.methodLink "PullSaw" 331 ⟨"PullSaw", "drawEighth", "()I"⟩ : Cond) ∈ tb_G := tb_in (List.mem_of_getElem? (i := 684) (by decide +kernel)) rfl
theorem tq_686 : (.instanceMethod ⟨"PullSaw", "drawEighth", "()I"⟩ : Cond) ∈ tb_G := tb_in (List.mem_of_getElem? (i := 686) (by decide +kernel)) rfl
set_option maxRecDepth 100000 in
theorem tq_687 : (.code ⟨"PullSaw", "drawEighth", "()I"⟩ prog_1_method_44_code 1 (some .int) : Cond) ∈ tb_G := tb_in (List.mem_of_getElem? (i := 687) rfl) rfl
theorem tq_688 : (.constant "PullSaw" 335 (1103515245 : Int32) : Cond) ∈ tb_G := tb_in (List.mem_of_getElem? (i := 688) (by decide +kernel)) rfl
theorem tq_689 : (.constant "PullSaw" 336 (2147483647 : Int32) : Cond) ∈ tb_G := tb_in (List.mem_of_getElem? (i := 689) (by decide +kernel)) rfl
theorem tq_690 : (.constant "PullSaw" 337 (65536 : Int32) : Cond) ∈ tb_G := tb_in (List.mem_of_getElem? (i := 690) (by decide +kernel)) rfl
theorem tq_691 : (.methodLink "PullSawLaw" 80 ⟨"PullSaw", "undo", "(I)I"⟩ : Cond) ∈ tb_G := tb_in (List.mem_of_getElem? (i := 691) (by decide +kernel)) rfl
theorem tq_692 : (.instanceMethod ⟨"PullSaw", "undo", "(I)I"⟩ : Cond) ∈ tb_G := tb_in (List.mem_of_getElem? (i := 692) (by decide +kernel)) rfl
theorem tq_693 : (.selects "PullSaw" ⟨"PullSaw", "undo", "(I)I"⟩ ⟨"PullSaw", "undo", "(I)I"⟩ : Cond) ∈ tb_G := tb_in (List.mem_of_getElem? (i := 693) (by decide +kernel)) rfl
set_option maxRecDepth 100000 in
theorem tq_694 : (.code ⟨"PullSaw", "undo", "(I)I"⟩ prog_1_method_18_code 2 (some .int) : Cond) ∈ tb_G := tb_in (List.mem_of_getElem? (i := 694) rfl) rfl
theorem tq_695 : (.methodLink "PullSaw" 240 ⟨"PullSaw$Past", "bringBack", "(ILPullSaw$Work;)V"⟩ : Cond) ∈ tb_G := tb_in (List.mem_of_getElem? (i := 695) (by decide +kernel)) rfl
theorem tq_696 : (.instanceMethod ⟨"PullSaw$Past", "bringBack", "(ILPullSaw$Work;)V"⟩ : Cond) ∈ tb_G := tb_in (List.mem_of_getElem? (i := 696) (by decide +kernel)) rfl
theorem tq_697 : (.selects "PullSaw$Past" ⟨"PullSaw$Past", "bringBack", "(ILPullSaw$Work;)V"⟩ ⟨"PullSaw$Past", "bringBack", "(ILPullSaw$Work;)V"⟩ : Cond) ∈ tb_G := tb_in (List.mem_of_getElem? (i := 697) (by decide +kernel)) rfl
set_option maxRecDepth 100000 in
theorem tq_698 : (.code ⟨"PullSaw$Past", "bringBack", "(ILPullSaw$Work;)V"⟩ prog_4_method_4_code 5 none : Cond) ∈ tb_G := tb_in (List.mem_of_getElem? (i := 698) rfl) rfl
theorem tq_699 : (.methodLink "PullSawLaw" 84 ⟨"PullSaw", "toGo", "()I"⟩ : Cond) ∈ tb_G := tb_in (List.mem_of_getElem? (i := 699) (by decide +kernel)) rfl
theorem tq_700 : (.instanceMethod ⟨"PullSaw", "toGo", "()I"⟩ : Cond) ∈ tb_G := tb_in (List.mem_of_getElem? (i := 700) (by decide +kernel)) rfl
theorem tq_701 : (.selects "PullSaw" ⟨"PullSaw", "toGo", "()I"⟩ ⟨"PullSaw", "toGo", "()I"⟩ : Cond) ∈ tb_G := tb_in (List.mem_of_getElem? (i := 701) (by decide +kernel)) rfl
set_option maxRecDepth 100000 in
theorem tq_702 : (.code ⟨"PullSaw", "toGo", "()I"⟩ prog_1_method_19_code 1 (some .int) : Cond) ∈ tb_G := tb_in (List.mem_of_getElem? (i := 702) rfl) rfl
theorem tq_703 : (.methodLink "PullSaw" 244 ⟨"PullSaw$Trial", "strokesFrom", "(LPullSaw$Yard;LPullSaw$Work;)I"⟩ : Cond) ∈ tb_G := tb_in (List.mem_of_getElem? (i := 703) (by decide +kernel)) rfl
theorem tq_704 : (.instanceMethod ⟨"PullSaw$Trial", "strokesFrom", "(LPullSaw$Yard;LPullSaw$Work;)I"⟩ : Cond) ∈ tb_G := tb_in (List.mem_of_getElem? (i := 704) (by decide +kernel)) rfl
theorem tq_705 : (.selects "PullSaw$Trial" ⟨"PullSaw$Trial", "strokesFrom", "(LPullSaw$Yard;LPullSaw$Work;)I"⟩ ⟨"PullSaw$Trial", "strokesFrom", "(LPullSaw$Yard;LPullSaw$Work;)I"⟩ : Cond) ∈ tb_G := tb_in (List.mem_of_getElem? (i := 705) (by decide +kernel)) rfl
set_option maxRecDepth 100000 in
theorem tq_706 : (.code ⟨"PullSaw$Trial", "strokesFrom", "(LPullSaw$Yard;LPullSaw$Work;)I"⟩ prog_8_method_2_code 3 (some .int) : Cond) ∈ tb_G := tb_in (List.mem_of_getElem? (i := 706) rfl) rfl
theorem tq_707 : (.methodLink "PullSaw$Trial" 21 ⟨"PullSaw$Work", "become", "(LPullSaw$Work;)V"⟩ : Cond) ∈ tb_G := tb_in (List.mem_of_getElem? (i := 707) (by decide +kernel)) rfl
theorem tq_708 : (.methodLink "PullSaw$Trial" 25 ⟨"PullSaw$Trial", "strokesThrough", "(LPullSaw$Yard;LPullSaw$Work;I)I"⟩ : Cond) ∈ tb_G := tb_in (List.mem_of_getElem? (i := 708) (by decide +kernel)) rfl
theorem tq_710 : (.instanceMethod ⟨"PullSaw$Trial", "strokesThrough", "(LPullSaw$Yard;LPullSaw$Work;I)I"⟩ : Cond) ∈ tb_G := tb_in (List.mem_of_getElem? (i := 710) (by decide +kernel)) rfl
set_option maxRecDepth 100000 in
theorem tq_711 : (.code ⟨"PullSaw$Trial", "strokesThrough", "(LPullSaw$Yard;LPullSaw$Work;I)I"⟩ prog_8_method_5_code 6 (some .int) : Cond) ∈ tb_G := tb_in (List.mem_of_getElem? (i := 711) rfl) rfl
theorem tq_712 : (.methodLink "PullSaw$Trial" 52 ⟨"PullSaw$Work", "isThrough", "(LPullSaw$Yard;)Z"⟩ : Cond) ∈ tb_G := tb_in (List.mem_of_getElem? (i := 712) (by decide +kernel)) rfl
theorem tq_713 : (.methodLink "PullSaw$Trial" 56 ⟨"PullSaw$Work", "pullOnce", "(LPullSaw$Yard;)I"⟩ : Cond) ∈ tb_G := tb_in (List.mem_of_getElem? (i := 713) (by decide +kernel)) rfl
theorem tq_714 : (.methodLink "PullSaw$Trial" 60 ⟨"PullSaw$Trial", "isNoFresher", "(LPullSaw$Work;)Z"⟩ : Cond) ∈ tb_G := tb_in (List.mem_of_getElem? (i := 714) (by decide +kernel)) rfl
theorem tq_716 : (.instanceMethod ⟨"PullSaw$Trial", "isNoFresher", "(LPullSaw$Work;)Z"⟩ : Cond) ∈ tb_G := tb_in (List.mem_of_getElem? (i := 716) (by decide +kernel)) rfl
set_option maxRecDepth 100000 in
theorem tq_717 : (.code ⟨"PullSaw$Trial", "isNoFresher", "(LPullSaw$Work;)Z"⟩ prog_8_method_7_code 2 (some .boolean) : Cond) ∈ tb_G := tb_in (List.mem_of_getElem? (i := 717) rfl) rfl
theorem tq_718 : (.methodLink "PullSaw$Trial" 74 ⟨"PullSaw$Row", "at", "([II)I"⟩ : Cond) ∈ tb_G := tb_in (List.mem_of_getElem? (i := 718) (by decide +kernel)) rfl
theorem tq_719 : (.methodLink "PullSaw$Trial" 64 ⟨"PullSaw$Trial", "rememberPair", "(LPullSaw$Work;)V"⟩ : Cond) ∈ tb_G := tb_in (List.mem_of_getElem? (i := 719) (by decide +kernel)) rfl
theorem tq_721 : (.instanceMethod ⟨"PullSaw$Trial", "rememberPair", "(LPullSaw$Work;)V"⟩ : Cond) ∈ tb_G := tb_in (List.mem_of_getElem? (i := 721) (by decide +kernel)) rfl
set_option maxRecDepth 100000 in
theorem tq_722 : (.code ⟨"PullSaw$Trial", "rememberPair", "(LPullSaw$Work;)V"⟩ prog_8_method_6_code 2 none : Cond) ∈ tb_G := tb_in (List.mem_of_getElem? (i := 722) rfl) rfl
theorem tq_723 : (.methodLink "PullSaw" 248 ⟨"PullSaw", "noneIfNever", "(I)I"⟩ : Cond) ∈ tb_G := tb_in (List.mem_of_getElem? (i := 723) (by decide +kernel)) rfl
theorem tq_724 : (.static ⟨"PullSaw", "noneIfNever", "(I)I"⟩ : Cond) ∈ tb_G := tb_in (List.mem_of_getElem? (i := 724) (by decide +kernel)) rfl
set_option maxRecDepth 100000 in
theorem tq_725 : (.code ⟨"PullSaw", "noneIfNever", "(I)I"⟩ prog_1_method_38_code 1 (some .int) : Cond) ∈ tb_G := tb_in (List.mem_of_getElem? (i := 725) rfl) rfl
theorem tq_726 : (.methodLink "PullSawLaw" 88 ⟨"PullSaw", "fresh", "(II)I"⟩ : Cond) ∈ tb_G := tb_in (List.mem_of_getElem? (i := 726) (by decide +kernel)) rfl
theorem tq_727 : (.instanceMethod ⟨"PullSaw", "fresh", "(II)I"⟩ : Cond) ∈ tb_G := tb_in (List.mem_of_getElem? (i := 727) (by decide +kernel)) rfl
theorem tq_728 : (.selects "PullSaw" ⟨"PullSaw", "fresh", "(II)I"⟩ ⟨"PullSaw", "fresh", "(II)I"⟩ : Cond) ∈ tb_G := tb_in (List.mem_of_getElem? (i := 728) (by decide +kernel)) rfl
set_option maxRecDepth 100000 in
theorem tq_729 : (.code ⟨"PullSaw", "fresh", "(II)I"⟩ prog_1_method_20_code 4 (some .int) : Cond) ∈ tb_G := tb_in (List.mem_of_getElem? (i := 729) rfl) rfl
theorem tq_730 : (.methodLink "PullSaw" 251 ⟨"PullSaw$Trial", "strokesFresh", "(LPullSaw$Yard;LPullSaw$Work;II)I"⟩ : Cond) ∈ tb_G := tb_in (List.mem_of_getElem? (i := 730) (by decide +kernel)) rfl
theorem tq_731 : (.instanceMethod ⟨"PullSaw$Trial", "strokesFresh", "(LPullSaw$Yard;LPullSaw$Work;II)I"⟩ : Cond) ∈ tb_G := tb_in (List.mem_of_getElem? (i := 731) (by decide +kernel)) rfl
theorem tq_732 : (.selects "PullSaw$Trial" ⟨"PullSaw$Trial", "strokesFresh", "(LPullSaw$Yard;LPullSaw$Work;II)I"⟩ ⟨"PullSaw$Trial", "strokesFresh", "(LPullSaw$Yard;LPullSaw$Work;II)I"⟩ : Cond) ∈ tb_G := tb_in (List.mem_of_getElem? (i := 732) (by decide +kernel)) rfl
set_option maxRecDepth 100000 in
theorem tq_733 : (.code ⟨"PullSaw$Trial", "strokesFresh", "(LPullSaw$Yard;LPullSaw$Work;II)I"⟩ prog_8_method_3_code 5 (some .int) : Cond) ∈ tb_G := tb_in (List.mem_of_getElem? (i := 733) rfl) rfl
theorem tq_734 : (.methodLink "PullSaw$Trial" 29 ⟨"PullSaw$Trial", "begin", "(LPullSaw$Yard;LPullSaw$Work;II)V"⟩ : Cond) ∈ tb_G := tb_in (List.mem_of_getElem? (i := 734) (by decide +kernel)) rfl
theorem tq_736 : (.instanceMethod ⟨"PullSaw$Trial", "begin", "(LPullSaw$Yard;LPullSaw$Work;II)V"⟩ : Cond) ∈ tb_G := tb_in (List.mem_of_getElem? (i := 736) (by decide +kernel)) rfl
set_option maxRecDepth 100000 in
theorem tq_737 : (.code ⟨"PullSaw$Trial", "begin", "(LPullSaw$Yard;LPullSaw$Work;II)V"⟩ prog_8_method_4_code 5 none : Cond) ∈ tb_G := tb_in (List.mem_of_getElem? (i := 737) rfl) rfl
theorem tq_738 : (.methodLink "PullSaw$Trial" 33 ⟨"PullSaw$Work", "startLog", "(II)V"⟩ : Cond) ∈ tb_G := tb_in (List.mem_of_getElem? (i := 738) (by decide +kernel)) rfl
theorem tq_739 : (.methodLink "PullSaw$Trial" 46 ⟨"PullSaw$Row", "copy", "([I[I)V"⟩ : Cond) ∈ tb_G := tb_in (List.mem_of_getElem? (i := 739) (by decide +kernel)) rfl
theorem tq_740 : (.methodLink "PullSawLaw" 92 ⟨"PullSaw", "wishes", "(III)I"⟩ : Cond) ∈ tb_G := tb_in (List.mem_of_getElem? (i := 740) (by decide +kernel)) rfl
theorem tq_741 : (.instanceMethod ⟨"PullSaw", "wishes", "(III)I"⟩ : Cond) ∈ tb_G := tb_in (List.mem_of_getElem? (i := 741) (by decide +kernel)) rfl
theorem tq_742 : (.selects "PullSaw" ⟨"PullSaw", "wishes", "(III)I"⟩ ⟨"PullSaw", "wishes", "(III)I"⟩ : Cond) ∈ tb_G := tb_in (List.mem_of_getElem? (i := 742) (by decide +kernel)) rfl
set_option maxRecDepth 100000 in
theorem tq_743 : (.code ⟨"PullSaw", "wishes", "(III)I"⟩ prog_1_method_21_code 4 (some .int) : Cond) ∈ tb_G := tb_in (List.mem_of_getElem? (i := 743) rfl) rfl
theorem tq_744 : (.methodLink "PullSaw" 259 ⟨"PullSaw$Trial", "findWishes", "(LPullSaw$Yard;LPullSaw$Work;II)V"⟩ : Cond) ∈ tb_G := tb_in (List.mem_of_getElem? (i := 744) (by decide +kernel)) rfl
theorem tq_745 : (.instanceMethod ⟨"PullSaw$Trial", "findWishes", "(LPullSaw$Yard;LPullSaw$Work;II)V"⟩ : Cond) ∈ tb_G := tb_in (List.mem_of_getElem? (i := 745) (by decide +kernel)) rfl
theorem tq_746 : (.selects "PullSaw$Trial" ⟨"PullSaw$Trial", "findWishes", "(LPullSaw$Yard;LPullSaw$Work;II)V"⟩ ⟨"PullSaw$Trial", "findWishes", "(LPullSaw$Yard;LPullSaw$Work;II)V"⟩ : Cond) ∈ tb_G := tb_in (List.mem_of_getElem? (i := 746) (by decide +kernel)) rfl
set_option maxRecDepth 100000 in
theorem tq_747 : (.code ⟨"PullSaw$Trial", "findWishes", "(LPullSaw$Yard;LPullSaw$Work;II)V"⟩ prog_8_method_8_code 10 none : Cond) ∈ tb_G := tb_in (List.mem_of_getElem? (i := 747) rfl) rfl
theorem tq_748 : (.methodLink "PullSaw$Trial" 105 ⟨"java/lang/Math", "min", "(II)I"⟩ : Cond) ∈ tb_G := tb_in (List.mem_of_getElem? (i := 748) (by decide +kernel)) rfl
theorem tq_749 : (.methodLink "PullSaw$Trial" 111 ⟨"PullSaw$Row", "put", "([III)V"⟩ : Cond) ∈ tb_G := tb_in (List.mem_of_getElem? (i := 749) (by decide +kernel)) rfl
theorem tq_750 : (.methodLink "PullSawLaw" 97 ⟨"PullSaw", "quarrel", "(II)I"⟩ : Cond) ∈ tb_G := tb_in (List.mem_of_getElem? (i := 750) (by decide +kernel)) rfl
theorem tq_751 : (.instanceMethod ⟨"PullSaw", "quarrel", "(II)I"⟩ : Cond) ∈ tb_G := tb_in (List.mem_of_getElem? (i := 751) (by decide +kernel)) rfl
theorem tq_752 : (.selects "PullSaw" ⟨"PullSaw", "quarrel", "(II)I"⟩ ⟨"PullSaw", "quarrel", "(II)I"⟩ : Cond) ∈ tb_G := tb_in (List.mem_of_getElem? (i := 752) (by decide +kernel)) rfl
set_option maxRecDepth 100000 in
theorem tq_753 : (.code ⟨"PullSaw", "quarrel", "(II)I"⟩ prog_1_method_22_code 4 (some .int) : Cond) ∈ tb_G := tb_in (List.mem_of_getElem? (i := 753) rfl) rfl
theorem tq_754 : (.methodLink "PullSaw" 272 ⟨"PullSaw$Trial", "quarrelStroke", "(LPullSaw$Yard;LPullSaw$Work;II)I"⟩ : Cond) ∈ tb_G := tb_in (List.mem_of_getElem? (i := 754) (by decide +kernel)) rfl
theorem tq_755 : (.instanceMethod ⟨"PullSaw$Trial", "quarrelStroke", "(LPullSaw$Yard;LPullSaw$Work;II)I"⟩ : Cond) ∈ tb_G := tb_in (List.mem_of_getElem? (i := 755) (by decide +kernel)) rfl
theorem tq_756 : (.selects "PullSaw$Trial" ⟨"PullSaw$Trial", "quarrelStroke", "(LPullSaw$Yard;LPullSaw$Work;II)I"⟩ ⟨"PullSaw$Trial", "quarrelStroke", "(LPullSaw$Yard;LPullSaw$Work;II)I"⟩ : Cond) ∈ tb_G := tb_in (List.mem_of_getElem? (i := 756) (by decide +kernel)) rfl
set_option maxRecDepth 100000 in
theorem tq_757 : (.code ⟨"PullSaw$Trial", "quarrelStroke", "(LPullSaw$Yard;LPullSaw$Work;II)I"⟩ prog_8_method_9_code 6 (some .int) : Cond) ∈ tb_G := tb_in (List.mem_of_getElem? (i := 757) rfl) rfl
theorem tq_758 : (.methodLink "PullSaw$Trial" 115 ⟨"PullSaw$Work", "hasQuarrel", "()Z"⟩ : Cond) ∈ tb_G := tb_in (List.mem_of_getElem? (i := 758) (by decide +kernel)) rfl
theorem tq_759 : (.instanceMethod ⟨"PullSaw$Work", "hasQuarrel", "()Z"⟩ : Cond) ∈ tb_G := tb_in (List.mem_of_getElem? (i := 759) (by decide +kernel)) rfl
theorem tq_760 : (.selects "PullSaw$Work" ⟨"PullSaw$Work", "hasQuarrel", "()Z"⟩ ⟨"PullSaw$Work", "hasQuarrel", "()Z"⟩ : Cond) ∈ tb_G := tb_in (List.mem_of_getElem? (i := 760) (by decide +kernel)) rfl
set_option maxRecDepth 100000 in
theorem tq_761 : (.code ⟨"PullSaw$Work", "hasQuarrel", "()Z"⟩ prog_9_method_16_code 1 (some .boolean) : Cond) ∈ tb_G := tb_in (List.mem_of_getElem? (i := 761) rfl) rfl
theorem tq_762 : (.methodLink "PullSaw$Work" 144 ⟨"java/lang/Math", "abs", "(I)I"⟩ : Cond) ∈ tb_G := tb_in (List.mem_of_getElem? (i := 762) (by decide +kernel)) rfl
theorem tq_763 : (.static ⟨"java/lang/Math", "abs", "(I)I"⟩ : Cond) ∈ tb_G := tb_in (List.mem_of_getElem? (i := 763) (by decide +kernel)) rfl
set_option maxRecDepth 100000 in
theorem tq_764 : (.code ⟨"java/lang/Math", "abs", "(I)I"⟩ prog_14_method_59_code 1 (some .int) : Cond) ∈ tb_G := tb_in (List.mem_of_getElem? (i := 764) rfl) rfl
theorem tq_765 : (.methodLink "PullSawLaw" 101 ⟨"PullSaw", "withWhom", "(I)I"⟩ : Cond) ∈ tb_G := tb_in (List.mem_of_getElem? (i := 765) (by decide +kernel)) rfl
theorem tq_766 : (.instanceMethod ⟨"PullSaw", "withWhom", "(I)I"⟩ : Cond) ∈ tb_G := tb_in (List.mem_of_getElem? (i := 766) (by decide +kernel)) rfl
theorem tq_767 : (.selects "PullSaw" ⟨"PullSaw", "withWhom", "(I)I"⟩ ⟨"PullSaw", "withWhom", "(I)I"⟩ : Cond) ∈ tb_G := tb_in (List.mem_of_getElem? (i := 767) (by decide +kernel)) rfl
set_option maxRecDepth 100000 in
theorem tq_768 : (.code ⟨"PullSaw", "withWhom", "(I)I"⟩ prog_1_method_23_code 3 (some .int) : Cond) ∈ tb_G := tb_in (List.mem_of_getElem? (i := 768) rfl) rfl
theorem tq_769 : (.methodLink "PullSaw" 275 ⟨"PullSaw$Trial", "findMate", "(LPullSaw$Yard;LPullSaw$Work;)I"⟩ : Cond) ∈ tb_G := tb_in (List.mem_of_getElem? (i := 769) (by decide +kernel)) rfl
theorem tq_770 : (.instanceMethod ⟨"PullSaw$Trial", "findMate", "(LPullSaw$Yard;LPullSaw$Work;)I"⟩ : Cond) ∈ tb_G := tb_in (List.mem_of_getElem? (i := 770) (by decide +kernel)) rfl
theorem tq_771 : (.selects "PullSaw$Trial" ⟨"PullSaw$Trial", "findMate", "(LPullSaw$Yard;LPullSaw$Work;)I"⟩ ⟨"PullSaw$Trial", "findMate", "(LPullSaw$Yard;LPullSaw$Work;)I"⟩ : Cond) ∈ tb_G := tb_in (List.mem_of_getElem? (i := 771) (by decide +kernel)) rfl
set_option maxRecDepth 100000 in
theorem tq_772 : (.code ⟨"PullSaw$Trial", "findMate", "(LPullSaw$Yard;LPullSaw$Work;)I"⟩ prog_8_method_10_code 12 (some .int) : Cond) ∈ tb_G := tb_in (List.mem_of_getElem? (i := 772) rfl) rfl
theorem tq_773 : (.methodLink "PullSaw$Trial" 122 ⟨"PullSaw$Trial", "strokesFresh", "(LPullSaw$Yard;LPullSaw$Work;II)I"⟩ : Cond) ∈ tb_G := tb_in (List.mem_of_getElem? (i := 773) (by decide +kernel)) rfl
theorem tq_774 : (.methodLink "PullSaw$Trial" 126 ⟨"java/lang/Math", "max", "(II)I"⟩ : Cond) ∈ tb_G := tb_in (List.mem_of_getElem? (i := 774) (by decide +kernel)) rfl
theorem tq_775 : (.methodLink "PullSawLaw" 105 ⟨"PullSaw", "changes", "(III)I"⟩ : Cond) ∈ tb_G := tb_in (List.mem_of_getElem? (i := 775) (by decide +kernel)) rfl
theorem tq_776 : (.instanceMethod ⟨"PullSaw", "changes", "(III)I"⟩ : Cond) ∈ tb_G := tb_in (List.mem_of_getElem? (i := 776) (by decide +kernel)) rfl
theorem tq_777 : (.selects "PullSaw" ⟨"PullSaw", "changes", "(III)I"⟩ ⟨"PullSaw", "changes", "(III)I"⟩ : Cond) ∈ tb_G := tb_in (List.mem_of_getElem? (i := 777) (by decide +kernel)) rfl
set_option maxRecDepth 100000 in
theorem tq_778 : (.code ⟨"PullSaw", "changes", "(III)I"⟩ prog_1_method_24_code 4 (some .int) : Cond) ∈ tb_G := tb_in (List.mem_of_getElem? (i := 778) rfl) rfl
theorem tq_779 : (.methodLink "PullSaw" 278 ⟨"PullSaw$Work", "lean", "(LPullSaw$Yard;)I"⟩ : Cond) ∈ tb_G := tb_in (List.mem_of_getElem? (i := 779) (by decide +kernel)) rfl
theorem tq_780 : (.methodLink "PullSaw" 281 ⟨"PullSaw$Balance", "weigh", "(IIII)V"⟩ : Cond) ∈ tb_G := tb_in (List.mem_of_getElem? (i := 780) (by decide +kernel)) rfl
theorem tq_781 : (.instanceMethod ⟨"PullSaw$Balance", "weigh", "(IIII)V"⟩ : Cond) ∈ tb_G := tb_in (List.mem_of_getElem? (i := 781) (by decide +kernel)) rfl
theorem tq_782 : (.selects "PullSaw$Balance" ⟨"PullSaw$Balance", "weigh", "(IIII)V"⟩ ⟨"PullSaw$Balance", "weigh", "(IIII)V"⟩ : Cond) ∈ tb_G := tb_in (List.mem_of_getElem? (i := 782) (by decide +kernel)) rfl
set_option maxRecDepth 100000 in
theorem tq_783 : (.code ⟨"PullSaw$Balance", "weigh", "(IIII)V"⟩ prog_2_method_2_code 7 none : Cond) ∈ tb_G := tb_in (List.mem_of_getElem? (i := 783) rfl) rfl
theorem tq_784 : (.methodLink "PullSaw$Balance" 31 ⟨"PullSaw$Row", "fill", "([II)V"⟩ : Cond) ∈ tb_G := tb_in (List.mem_of_getElem? (i := 784) (by decide +kernel)) rfl
theorem tq_785 : (.methodLink "PullSaw$Balance" 37 ⟨"java/lang/Math", "min", "(II)I"⟩ : Cond) ∈ tb_G := tb_in (List.mem_of_getElem? (i := 785) (by decide +kernel)) rfl
theorem tq_786 : (.methodLink "PullSaw$Balance" 43 ⟨"PullSaw$Balance", "stepBack", "()V"⟩ : Cond) ∈ tb_G := tb_in (List.mem_of_getElem? (i := 786) (by decide +kernel)) rfl
theorem tq_788 : (.instanceMethod ⟨"PullSaw$Balance", "stepBack", "()V"⟩ : Cond) ∈ tb_G := tb_in (List.mem_of_getElem? (i := 788) (by decide +kernel)) rfl
set_option maxRecDepth 100000 in
theorem tq_789 : (.code ⟨"PullSaw$Balance", "stepBack", "()V"⟩ prog_2_method_3_code 2 none : Cond) ∈ tb_G := tb_in (List.mem_of_getElem? (i := 789) rfl) rfl
theorem tq_790 : (.methodLink "PullSaw$Balance" 46 ⟨"PullSaw$Balance", "weighAhead", "(II)V"⟩ : Cond) ∈ tb_G := tb_in (List.mem_of_getElem? (i := 790) (by decide +kernel)) rfl
theorem tq_792 : (.instanceMethod ⟨"PullSaw$Balance", "weighAhead", "(II)V"⟩ : Cond) ∈ tb_G := tb_in (List.mem_of_getElem? (i := 792) (by decide +kernel)) rfl
set_option maxRecDepth 100000 in
theorem tq_793 : (.code ⟨"PullSaw$Balance", "weighAhead", "(II)V"⟩ prog_2_method_4_code 4 none : Cond) ∈ tb_G := tb_in (List.mem_of_getElem? (i := 793) rfl) rfl
theorem tq_794 : (.methodLink "PullSaw$Balance" 53 ⟨"PullSaw$Balance", "costOfStay", "(II)I"⟩ : Cond) ∈ tb_G := tb_in (List.mem_of_getElem? (i := 794) (by decide +kernel)) rfl
theorem tq_796 : (.instanceMethod ⟨"PullSaw$Balance", "costOfStay", "(II)I"⟩ : Cond) ∈ tb_G := tb_in (List.mem_of_getElem? (i := 796) (by decide +kernel)) rfl
set_option maxRecDepth 100000 in
theorem tq_797 : (.code ⟨"PullSaw$Balance", "costOfStay", "(II)I"⟩ prog_2_method_5_code 3 (some .int) : Cond) ∈ tb_G := tb_in (List.mem_of_getElem? (i := 797) rfl) rfl
theorem tq_798 : (.methodLink "PullSaw$Balance" 70 ⟨"PullSaw$Balance", "costBehind", "(II)I"⟩ : Cond) ∈ tb_G := tb_in (List.mem_of_getElem? (i := 798) (by decide +kernel)) rfl
theorem tq_800 : (.instanceMethod ⟨"PullSaw$Balance", "costBehind", "(II)I"⟩ : Cond) ∈ tb_G := tb_in (List.mem_of_getElem? (i := 800) (by decide +kernel)) rfl
set_option maxRecDepth 100000 in
theorem tq_801 : (.code ⟨"PullSaw$Balance", "costBehind", "(II)I"⟩ prog_2_method_7_code 3 (some .int) : Cond) ∈ tb_G := tb_in (List.mem_of_getElem? (i := 801) rfl) rfl
theorem tq_802 : (.methodLink "PullSaw$Balance" 73 ⟨"java/lang/Math", "abs", "(I)I"⟩ : Cond) ∈ tb_G := tb_in (List.mem_of_getElem? (i := 802) (by decide +kernel)) rfl
theorem tq_803 : (.methodLink "PullSaw$Balance" 56 ⟨"PullSaw$Balance", "place", "(II)I"⟩ : Cond) ∈ tb_G := tb_in (List.mem_of_getElem? (i := 803) (by decide +kernel)) rfl
theorem tq_804 : (.static ⟨"PullSaw$Balance", "place", "(II)I"⟩ : Cond) ∈ tb_G := tb_in (List.mem_of_getElem? (i := 804) (by decide +kernel)) rfl
set_option maxRecDepth 100000 in
theorem tq_805 : (.code ⟨"PullSaw$Balance", "place", "(II)I"⟩ prog_2_method_8_code 2 (some .int) : Cond) ∈ tb_G := tb_in (List.mem_of_getElem? (i := 805) rfl) rfl
theorem tq_806 : (.methodLink "PullSaw$Balance" 59 ⟨"PullSaw$Row", "at", "([II)I"⟩ : Cond) ∈ tb_G := tb_in (List.mem_of_getElem? (i := 806) (by decide +kernel)) rfl
theorem tq_807 : (.methodLink "PullSaw$Balance" 50 ⟨"PullSaw$Balance", "costOfChange", "(II)I"⟩ : Cond) ∈ tb_G := tb_in (List.mem_of_getElem? (i := 807) (by decide +kernel)) rfl
theorem tq_809 : (.instanceMethod ⟨"PullSaw$Balance", "costOfChange", "(II)I"⟩ : Cond) ∈ tb_G := tb_in (List.mem_of_getElem? (i := 809) (by decide +kernel)) rfl
set_option maxRecDepth 100000 in
theorem tq_810 : (.code ⟨"PullSaw$Balance", "costOfChange", "(II)I"⟩ prog_2_method_6_code 3 (some .int) : Cond) ∈ tb_G := tb_in (List.mem_of_getElem? (i := 810) rfl) rfl
theorem tq_811 : (.methodLink "PullSaw$Balance" 66 ⟨"PullSaw$Row", "put", "([III)V"⟩ : Cond) ∈ tb_G := tb_in (List.mem_of_getElem? (i := 811) (by decide +kernel)) rfl
theorem tq_812 : (.methodLink "PullSawLaw" 109 ⟨"PullSaw", "whenWedge", "(I)I"⟩ : Cond) ∈ tb_G := tb_in (List.mem_of_getElem? (i := 812) (by decide +kernel)) rfl
theorem tq_813 : (.instanceMethod ⟨"PullSaw", "whenWedge", "(I)I"⟩ : Cond) ∈ tb_G := tb_in (List.mem_of_getElem? (i := 813) (by decide +kernel)) rfl
theorem tq_814 : (.selects "PullSaw" ⟨"PullSaw", "whenWedge", "(I)I"⟩ ⟨"PullSaw", "whenWedge", "(I)I"⟩ : Cond) ∈ tb_G := tb_in (List.mem_of_getElem? (i := 814) (by decide +kernel)) rfl
set_option maxRecDepth 100000 in
theorem tq_815 : (.code ⟨"PullSaw", "whenWedge", "(I)I"⟩ prog_1_method_25_code 3 (some .int) : Cond) ∈ tb_G := tb_in (List.mem_of_getElem? (i := 815) rfl) rfl
theorem tq_816 : (.methodLink "PullSaw" 289 ⟨"PullSaw$Trial", "findWedge", "(LPullSaw$Yard;LPullSaw$Work;)I"⟩ : Cond) ∈ tb_G := tb_in (List.mem_of_getElem? (i := 816) (by decide +kernel)) rfl
theorem tq_817 : (.instanceMethod ⟨"PullSaw$Trial", "findWedge", "(LPullSaw$Yard;LPullSaw$Work;)I"⟩ : Cond) ∈ tb_G := tb_in (List.mem_of_getElem? (i := 817) (by decide +kernel)) rfl
theorem tq_818 : (.selects "PullSaw$Trial" ⟨"PullSaw$Trial", "findWedge", "(LPullSaw$Yard;LPullSaw$Work;)I"⟩ ⟨"PullSaw$Trial", "findWedge", "(LPullSaw$Yard;LPullSaw$Work;)I"⟩ : Cond) ∈ tb_G := tb_in (List.mem_of_getElem? (i := 818) (by decide +kernel)) rfl
set_option maxRecDepth 100000 in
theorem tq_819 : (.code ⟨"PullSaw$Trial", "findWedge", "(LPullSaw$Yard;LPullSaw$Work;)I"⟩ prog_8_method_11_code 6 (some .int) : Cond) ∈ tb_G := tb_in (List.mem_of_getElem? (i := 819) rfl) rfl
theorem tq_820 : (.methodLink "PullSaw$Trial" 129 ⟨"PullSaw$Trial", "strokesFrom", "(LPullSaw$Yard;LPullSaw$Work;)I"⟩ : Cond) ∈ tb_G := tb_in (List.mem_of_getElem? (i := 820) (by decide +kernel)) rfl
theorem tq_821 : (.methodLink "PullSawLaw" 113 ⟨"PullSaw", "whenRest", "(II)I"⟩ : Cond) ∈ tb_G := tb_in (List.mem_of_getElem? (i := 821) (by decide +kernel)) rfl
theorem tq_822 : (.instanceMethod ⟨"PullSaw", "whenRest", "(II)I"⟩ : Cond) ∈ tb_G := tb_in (List.mem_of_getElem? (i := 822) (by decide +kernel)) rfl
theorem tq_823 : (.selects "PullSaw" ⟨"PullSaw", "whenRest", "(II)I"⟩ ⟨"PullSaw", "whenRest", "(II)I"⟩ : Cond) ∈ tb_G := tb_in (List.mem_of_getElem? (i := 823) (by decide +kernel)) rfl
set_option maxRecDepth 100000 in
theorem tq_824 : (.code ⟨"PullSaw", "whenRest", "(II)I"⟩ prog_1_method_26_code 4 (some .int) : Cond) ∈ tb_G := tb_in (List.mem_of_getElem? (i := 824) rfl) rfl
theorem tq_825 : (.methodLink "PullSaw" 292 ⟨"PullSaw$Trial", "findRests", "(LPullSaw$Yard;LPullSaw$Work;I)I"⟩ : Cond) ∈ tb_G := tb_in (List.mem_of_getElem? (i := 825) (by decide +kernel)) rfl
theorem tq_826 : (.instanceMethod ⟨"PullSaw$Trial", "findRests", "(LPullSaw$Yard;LPullSaw$Work;I)I"⟩ : Cond) ∈ tb_G := tb_in (List.mem_of_getElem? (i := 826) (by decide +kernel)) rfl
theorem tq_827 : (.selects "PullSaw$Trial" ⟨"PullSaw$Trial", "findRests", "(LPullSaw$Yard;LPullSaw$Work;I)I"⟩ ⟨"PullSaw$Trial", "findRests", "(LPullSaw$Yard;LPullSaw$Work;I)I"⟩ : Cond) ∈ tb_G := tb_in (List.mem_of_getElem? (i := 827) (by decide +kernel)) rfl
set_option maxRecDepth 100000 in
theorem tq_828 : (.code ⟨"PullSaw$Trial", "findRests", "(LPullSaw$Yard;LPullSaw$Work;I)I"⟩ prog_8_method_12_code 9 (some .int) : Cond) ∈ tb_G := tb_in (List.mem_of_getElem? (i := 828) rfl) rfl
theorem tq_829 : (.methodLink "PullSaw$Trial" 140 ⟨"java/lang/Integer", "bitCount", "(I)I"⟩ : Cond) ∈ tb_G := tb_in (List.mem_of_getElem? (i := 829) (by decide +kernel)) rfl
theorem tq_830 : (.static ⟨"java/lang/Integer", "bitCount", "(I)I"⟩ : Cond) ∈ tb_G := tb_in (List.mem_of_getElem? (i := 830) (by decide +kernel)) rfl
set_option maxRecDepth 100000 in
theorem tq_831 : (.code ⟨"java/lang/Integer", "bitCount", "(I)I"⟩ prog_13_method_49_code 1 (some .int) : Cond) ∈ tb_G := tb_in (List.mem_of_getElem? (i := 831) rfl) rfl
theorem tq_832 : (.constant "java/lang/Integer" 265 (1431655765 : Int32) : Cond) ∈ tb_G := tb_in (List.mem_of_getElem? (i := 832) (by decide +kernel)) rfl
theorem tq_833 : (.constant "java/lang/Integer" 266 (858993459 : Int32) : Cond) ∈ tb_G := tb_in (List.mem_of_getElem? (i := 833) (by decide +kernel)) rfl
theorem tq_834 : (.constant "java/lang/Integer" 267 (252645135 : Int32) : Cond) ∈ tb_G := tb_in (List.mem_of_getElem? (i := 834) (by decide +kernel)) rfl
theorem tq_835 : (.methodLink "PullSaw$Trial" 146 ⟨"PullSaw$Trial", "depthBehind", "(LPullSaw$Yard;LPullSaw$Work;II)I"⟩ : Cond) ∈ tb_G := tb_in (List.mem_of_getElem? (i := 835) (by decide +kernel)) rfl
theorem tq_837 : (.instanceMethod ⟨"PullSaw$Trial", "depthBehind", "(LPullSaw$Yard;LPullSaw$Work;II)I"⟩ : Cond) ∈ tb_G := tb_in (List.mem_of_getElem? (i := 837) (by decide +kernel)) rfl
set_option maxRecDepth 100000 in
theorem tq_838 : (.code ⟨"PullSaw$Trial", "depthBehind", "(LPullSaw$Yard;LPullSaw$Work;II)I"⟩ prog_8_method_13_code 6 (some .int) : Cond) ∈ tb_G := tb_in (List.mem_of_getElem? (i := 838) rfl) rfl
theorem tq_839 : (.methodLink "PullSaw$Trial" 152 ⟨"PullSaw$Work", "restFor", "(I)V"⟩ : Cond) ∈ tb_G := tb_in (List.mem_of_getElem? (i := 839) (by decide +kernel)) rfl
theorem tq_840 : (.methodLink "PullSaw$Trial" 149 ⟨"PullSaw$Trial", "turnedRound", "(II)I"⟩ : Cond) ∈ tb_G := tb_in (List.mem_of_getElem? (i := 840) (by decide +kernel)) rfl
theorem tq_841 : (.static ⟨"PullSaw$Trial", "turnedRound", "(II)I"⟩ : Cond) ∈ tb_G := tb_in (List.mem_of_getElem? (i := 841) (by decide +kernel)) rfl
set_option maxRecDepth 100000 in
theorem tq_842 : (.code ⟨"PullSaw$Trial", "turnedRound", "(II)I"⟩ prog_8_method_14_code 4 (some .int) : Cond) ∈ tb_G := tb_in (List.mem_of_getElem? (i := 842) rfl) rfl
theorem tq_843 : (.methodLink "PullSawLaw" 117 ⟨"PullSaw", "worthFile", "()I"⟩ : Cond) ∈ tb_G := tb_in (List.mem_of_getElem? (i := 843) (by decide +kernel)) rfl
theorem tq_844 : (.instanceMethod ⟨"PullSaw", "worthFile", "()I"⟩ : Cond) ∈ tb_G := tb_in (List.mem_of_getElem? (i := 844) (by decide +kernel)) rfl
theorem tq_845 : (.selects "PullSaw" ⟨"PullSaw", "worthFile", "()I"⟩ ⟨"PullSaw", "worthFile", "()I"⟩ : Cond) ∈ tb_G := tb_in (List.mem_of_getElem? (i := 845) (by decide +kernel)) rfl
set_option maxRecDepth 100000 in
theorem tq_846 : (.code ⟨"PullSaw", "worthFile", "()I"⟩ prog_1_method_27_code 1 (some .int) : Cond) ∈ tb_G := tb_in (List.mem_of_getElem? (i := 846) rfl) rfl
theorem tq_847 : (.methodLink "PullSaw" 299 ⟨"PullSaw$Trial", "gainByFile", "(LPullSaw$Yard;LPullSaw$Work;)I"⟩ : Cond) ∈ tb_G := tb_in (List.mem_of_getElem? (i := 847) (by decide +kernel)) rfl
theorem tq_848 : (.instanceMethod ⟨"PullSaw$Trial", "gainByFile", "(LPullSaw$Yard;LPullSaw$Work;)I"⟩ : Cond) ∈ tb_G := tb_in (List.mem_of_getElem? (i := 848) (by decide +kernel)) rfl
theorem tq_849 : (.selects "PullSaw$Trial" ⟨"PullSaw$Trial", "gainByFile", "(LPullSaw$Yard;LPullSaw$Work;)I"⟩ ⟨"PullSaw$Trial", "gainByFile", "(LPullSaw$Yard;LPullSaw$Work;)I"⟩ : Cond) ∈ tb_G := tb_in (List.mem_of_getElem? (i := 849) (by decide +kernel)) rfl
set_option maxRecDepth 100000 in
theorem tq_850 : (.code ⟨"PullSaw$Trial", "gainByFile", "(LPullSaw$Yard;LPullSaw$Work;)I"⟩ prog_8_method_15_code 4 (some .int) : Cond) ∈ tb_G := tb_in (List.mem_of_getElem? (i := 850) rfl) rfl
theorem tq_851 : (.methodLink "PullSawLaw" 121 ⟨"PullSaw", "see", "(I)I"⟩ : Cond) ∈ tb_G := tb_in (List.mem_of_getElem? (i := 851) (by decide +kernel)) rfl
theorem tq_852 : (.instanceMethod ⟨"PullSaw", "see", "(I)I"⟩ : Cond) ∈ tb_G := tb_in (List.mem_of_getElem? (i := 852) (by decide +kernel)) rfl
theorem tq_853 : (.selects "PullSaw" ⟨"PullSaw", "see", "(I)I"⟩ ⟨"PullSaw", "see", "(I)I"⟩ : Cond) ∈ tb_G := tb_in (List.mem_of_getElem? (i := 853) (by decide +kernel)) rfl
set_option maxRecDepth 100000 in
theorem tq_854 : (.code ⟨"PullSaw", "see", "(I)I"⟩ prog_1_method_28_code 2 (some .int) : Cond) ∈ tb_G := tb_in (List.mem_of_getElem? (i := 854) rfl) rfl
theorem tq_855 : (.methodLink "PullSaw" 302 ⟨"PullSaw", "addCut", "(LPullSaw$Sheet;I)I"⟩ : Cond) ∈ tb_G := tb_in (List.mem_of_getElem? (i := 855) (by decide +kernel)) rfl
theorem tq_856 : (.static ⟨"PullSaw", "addCut", "(LPullSaw$Sheet;I)I"⟩ : Cond) ∈ tb_G := tb_in (List.mem_of_getElem? (i := 856) (by decide +kernel)) rfl
set_option maxRecDepth 100000 in
theorem tq_857 : (.code ⟨"PullSaw", "addCut", "(LPullSaw$Sheet;I)I"⟩ prog_1_method_42_code 2 (some .int) : Cond) ∈ tb_G := tb_in (List.mem_of_getElem? (i := 857) rfl) rfl
theorem tq_858 : (.methodLink "PullSawLaw" 125 ⟨"PullSaw", "habits", "(II)I"⟩ : Cond) ∈ tb_G := tb_in (List.mem_of_getElem? (i := 858) (by decide +kernel)) rfl
theorem tq_859 : (.instanceMethod ⟨"PullSaw", "habits", "(II)I"⟩ : Cond) ∈ tb_G := tb_in (List.mem_of_getElem? (i := 859) (by decide +kernel)) rfl
theorem tq_860 : (.selects "PullSaw" ⟨"PullSaw", "habits", "(II)I"⟩ ⟨"PullSaw", "habits", "(II)I"⟩ : Cond) ∈ tb_G := tb_in (List.mem_of_getElem? (i := 860) (by decide +kernel)) rfl
set_option maxRecDepth 100000 in
theorem tq_861 : (.code ⟨"PullSaw", "habits", "(II)I"⟩ prog_1_method_29_code 4 (some .int) : Cond) ∈ tb_G := tb_in (List.mem_of_getElem? (i := 861) rfl) rfl
theorem tq_862 : (.methodLink "PullSaw" 306 ⟨"PullSaw$Trial", "habitsThatFit", "(LPullSaw$Yard;LPullSaw$Work;IILPullSaw$Sheet;)I"⟩ : Cond) ∈ tb_G := tb_in (List.mem_of_getElem? (i := 862) (by decide +kernel)) rfl
theorem tq_863 : (.instanceMethod ⟨"PullSaw$Trial", "habitsThatFit", "(LPullSaw$Yard;LPullSaw$Work;IILPullSaw$Sheet;)I"⟩ : Cond) ∈ tb_G := tb_in (List.mem_of_getElem? (i := 863) (by decide +kernel)) rfl
theorem tq_864 : (.selects "PullSaw$Trial" ⟨"PullSaw$Trial", "habitsThatFit", "(LPullSaw$Yard;LPullSaw$Work;IILPullSaw$Sheet;)I"⟩ ⟨"PullSaw$Trial", "habitsThatFit", "(LPullSaw$Yard;LPullSaw$Work;IILPullSaw$Sheet;)I"⟩ : Cond) ∈ tb_G := tb_in (List.mem_of_getElem? (i := 864) (by decide +kernel)) rfl
set_option maxRecDepth 100000 in
theorem tq_865 : (.code ⟨"PullSaw$Trial", "habitsThatFit", "(LPullSaw$Yard;LPullSaw$Work;IILPullSaw$Sheet;)I"⟩ prog_8_method_16_code 8 (some .int) : Cond) ∈ tb_G := tb_in (List.mem_of_getElem? (i := 865) rfl) rfl
theorem tq_866 : (.methodLink "PullSaw$Trial" 165 ⟨"PullSaw$Trial", "firstWrong", "(LPullSaw$Yard;LPullSaw$Sheet;)I"⟩ : Cond) ∈ tb_G := tb_in (List.mem_of_getElem? (i := 866) (by decide +kernel)) rfl
theorem tq_868 : (.instanceMethod ⟨"PullSaw$Trial", "firstWrong", "(LPullSaw$Yard;LPullSaw$Sheet;)I"⟩ : Cond) ∈ tb_G := tb_in (List.mem_of_getElem? (i := 868) (by decide +kernel)) rfl
set_option maxRecDepth 100000 in
theorem tq_869 : (.code ⟨"PullSaw$Trial", "firstWrong", "(LPullSaw$Yard;LPullSaw$Sheet;)I"⟩ prog_8_method_20_code 4 (some .int) : Cond) ∈ tb_G := tb_in (List.mem_of_getElem? (i := 869) rfl) rfl
theorem tq_870 : (.methodLink "PullSaw$Trial" 178 ⟨"PullSaw$Sheet", "mark", "(I)I"⟩ : Cond) ∈ tb_G := tb_in (List.mem_of_getElem? (i := 870) (by decide +kernel)) rfl
theorem tq_871 : (.methodLink "PullSawLaw" 129 ⟨"PullSaw", "end", "(I)I"⟩ : Cond) ∈ tb_G := tb_in (List.mem_of_getElem? (i := 871) (by decide +kernel)) rfl
theorem tq_872 : (.instanceMethod ⟨"PullSaw", "end", "(I)I"⟩ : Cond) ∈ tb_G := tb_in (List.mem_of_getElem? (i := 872) (by decide +kernel)) rfl
theorem tq_873 : (.selects "PullSaw" ⟨"PullSaw", "end", "(I)I"⟩ ⟨"PullSaw", "end", "(I)I"⟩ : Cond) ∈ tb_G := tb_in (List.mem_of_getElem? (i := 873) (by decide +kernel)) rfl
set_option maxRecDepth 100000 in
theorem tq_874 : (.code ⟨"PullSaw", "end", "(I)I"⟩ prog_1_method_30_code 2 (some .int) : Cond) ∈ tb_G := tb_in (List.mem_of_getElem? (i := 874) rfl) rfl
theorem tq_875 : (.methodLink "PullSaw" 310 ⟨"PullSaw$Trial", "pairThatFits", "(LPullSaw$Yard;LPullSaw$Work;LPullSaw$Sheet;I)I"⟩ : Cond) ∈ tb_G := tb_in (List.mem_of_getElem? (i := 875) (by decide +kernel)) rfl
theorem tq_876 : (.instanceMethod ⟨"PullSaw$Trial", "pairThatFits", "(LPullSaw$Yard;LPullSaw$Work;LPullSaw$Sheet;I)I"⟩ : Cond) ∈ tb_G := tb_in (List.mem_of_getElem? (i := 876) (by decide +kernel)) rfl
theorem tq_877 : (.selects "PullSaw$Trial" ⟨"PullSaw$Trial", "pairThatFits", "(LPullSaw$Yard;LPullSaw$Work;LPullSaw$Sheet;I)I"⟩ ⟨"PullSaw$Trial", "pairThatFits", "(LPullSaw$Yard;LPullSaw$Work;LPullSaw$Sheet;I)I"⟩ : Cond) ∈ tb_G := tb_in (List.mem_of_getElem? (i := 877) (by decide +kernel)) rfl
set_option maxRecDepth 100000 in
theorem tq_878 : (.code ⟨"PullSaw$Trial", "pairThatFits", "(LPullSaw$Yard;LPullSaw$Work;LPullSaw$Sheet;I)I"⟩ prog_8_method_17_code 8 (some .int) : Cond) ∈ tb_G := tb_in (List.mem_of_getElem? (i := 878) rfl) rfl
theorem tq_879 : (.methodLink "PullSaw$Trial" 169 ⟨"PullSaw$Trial", "fits", "(LPullSaw$Yard;LPullSaw$Work;IILPullSaw$Sheet;)Z"⟩ : Cond) ∈ tb_G := tb_in (List.mem_of_getElem? (i := 879) (by decide +kernel)) rfl
theorem tq_881 : (.instanceMethod ⟨"PullSaw$Trial", "fits", "(LPullSaw$Yard;LPullSaw$Work;IILPullSaw$Sheet;)Z"⟩ : Cond) ∈ tb_G := tb_in (List.mem_of_getElem? (i := 881) (by decide +kernel)) rfl
set_option maxRecDepth 100000 in
theorem tq_882 : (.code ⟨"PullSaw$Trial", "fits", "(LPullSaw$Yard;LPullSaw$Work;IILPullSaw$Sheet;)Z"⟩ prog_8_method_18_code 6 (some .boolean) : Cond) ∈ tb_G := tb_in (List.mem_of_getElem? (i := 882) rfl) rfl
theorem tq_883 : (.methodLink "PullSawLaw" 133 ⟨"PullSaw", "write", "(I)I"⟩ : Cond) ∈ tb_G := tb_in (List.mem_of_getElem? (i := 883) (by decide +kernel)) rfl
theorem tq_884 : (.instanceMethod ⟨"PullSaw", "write", "(I)I"⟩ : Cond) ∈ tb_G := tb_in (List.mem_of_getElem? (i := 884) (by decide +kernel)) rfl
theorem tq_885 : (.selects "PullSaw" ⟨"PullSaw", "write", "(I)I"⟩ ⟨"PullSaw", "write", "(I)I"⟩ : Cond) ∈ tb_G := tb_in (List.mem_of_getElem? (i := 885) (by decide +kernel)) rfl
set_option maxRecDepth 100000 in
theorem tq_886 : (.code ⟨"PullSaw", "write", "(I)I"⟩ prog_1_method_31_code 2 (some .int) : Cond) ∈ tb_G := tb_in (List.mem_of_getElem? (i := 886) rfl) rfl
theorem tq_887 : (.methodLink "PullSawLaw" 137 ⟨"PullSaw", "judge", "()I"⟩ : Cond) ∈ tb_G := tb_in (List.mem_of_getElem? (i := 887) (by decide +kernel)) rfl
theorem tq_888 : (.instanceMethod ⟨"PullSaw", "judge", "()I"⟩ : Cond) ∈ tb_G := tb_in (List.mem_of_getElem? (i := 888) (by decide +kernel)) rfl
theorem tq_889 : (.selects "PullSaw" ⟨"PullSaw", "judge", "()I"⟩ ⟨"PullSaw", "judge", "()I"⟩ : Cond) ∈ tb_G := tb_in (List.mem_of_getElem? (i := 889) (by decide +kernel)) rfl
set_option maxRecDepth 100000 in
theorem tq_890 : (.code ⟨"PullSaw", "judge", "()I"⟩ prog_1_method_32_code 1 (some .int) : Cond) ∈ tb_G := tb_in (List.mem_of_getElem? (i := 890) rfl) rfl
theorem tq_891 : (.methodLink "PullSaw" 314 ⟨"PullSaw$Trial", "wrongLine", "(LPullSaw$Yard;LPullSaw$Work;LPullSaw$Sheet;)I"⟩ : Cond) ∈ tb_G := tb_in (List.mem_of_getElem? (i := 891) (by decide +kernel)) rfl
theorem tq_892 : (.instanceMethod ⟨"PullSaw$Trial", "wrongLine", "(LPullSaw$Yard;LPullSaw$Work;LPullSaw$Sheet;)I"⟩ : Cond) ∈ tb_G := tb_in (List.mem_of_getElem? (i := 892) (by decide +kernel)) rfl
theorem tq_893 : (.selects "PullSaw$Trial" ⟨"PullSaw$Trial", "wrongLine", "(LPullSaw$Yard;LPullSaw$Work;LPullSaw$Sheet;)I"⟩ ⟨"PullSaw$Trial", "wrongLine", "(LPullSaw$Yard;LPullSaw$Work;LPullSaw$Sheet;)I"⟩ : Cond) ∈ tb_G := tb_in (List.mem_of_getElem? (i := 893) (by decide +kernel)) rfl
set_option maxRecDepth 100000 in
theorem tq_894 : (.code ⟨"PullSaw$Trial", "wrongLine", "(LPullSaw$Yard;LPullSaw$Work;LPullSaw$Sheet;)I"⟩ prog_8_method_19_code 4 (some .int) : Cond) ∈ tb_G := tb_in (List.mem_of_getElem? (i := 894) rfl) rfl
theorem tq_895 : (.methodLink "PullSawLaw" 141 ⟨"PullSaw", "tear", "()I"⟩ : Cond) ∈ tb_G := tb_in (List.mem_of_getElem? (i := 895) (by decide +kernel)) rfl
theorem tq_896 : (.instanceMethod ⟨"PullSaw", "tear", "()I"⟩ : Cond) ∈ tb_G := tb_in (List.mem_of_getElem? (i := 896) (by decide +kernel)) rfl
theorem tq_897 : (.selects "PullSaw" ⟨"PullSaw", "tear", "()I"⟩ ⟨"PullSaw", "tear", "()I"⟩ : Cond) ∈ tb_G := tb_in (List.mem_of_getElem? (i := 897) (by decide +kernel)) rfl
set_option maxRecDepth 100000 in
theorem tq_898 : (.code ⟨"PullSaw", "tear", "()I"⟩ prog_1_method_33_code 2 (some .int) : Cond) ∈ tb_G := tb_in (List.mem_of_getElem? (i := 898) rfl) rfl
theorem tq_899 : (.methodLink "PullSawLaw" 145 ⟨"PullSaw", "seed", "(I)I"⟩ : Cond) ∈ tb_G := tb_in (List.mem_of_getElem? (i := 899) (by decide +kernel)) rfl
theorem tq_900 : (.instanceMethod ⟨"PullSaw", "seed", "(I)I"⟩ : Cond) ∈ tb_G := tb_in (List.mem_of_getElem? (i := 900) (by decide +kernel)) rfl
theorem tq_901 : (.selects "PullSaw" ⟨"PullSaw", "seed", "(I)I"⟩ ⟨"PullSaw", "seed", "(I)I"⟩ : Cond) ∈ tb_G := tb_in (List.mem_of_getElem? (i := 901) (by decide +kernel)) rfl
set_option maxRecDepth 100000 in
theorem tq_902 : (.code ⟨"PullSaw", "seed", "(I)I"⟩ prog_1_method_34_code 3 (some .int) : Cond) ∈ tb_G := tb_in (List.mem_of_getElem? (i := 902) rfl) rfl
theorem tq_903 : (.methodLink "PullSawLaw" 149 ⟨"PullSaw", "keep", "(I)I"⟩ : Cond) ∈ tb_G := tb_in (List.mem_of_getElem? (i := 903) (by decide +kernel)) rfl
theorem tq_904 : (.instanceMethod ⟨"PullSaw", "keep", "(I)I"⟩ : Cond) ∈ tb_G := tb_in (List.mem_of_getElem? (i := 904) (by decide +kernel)) rfl
theorem tq_905 : (.selects "PullSaw" ⟨"PullSaw", "keep", "(I)I"⟩ ⟨"PullSaw", "keep", "(I)I"⟩ : Cond) ∈ tb_G := tb_in (List.mem_of_getElem? (i := 905) (by decide +kernel)) rfl
set_option maxRecDepth 100000 in
theorem tq_906 : (.code ⟨"PullSaw", "keep", "(I)I"⟩ prog_1_method_35_code 3 (some .int) : Cond) ∈ tb_G := tb_in (List.mem_of_getElem? (i := 906) rfl) rfl
theorem tq_907 : (.methodLink "PullSaw" 324 ⟨"PullSaw$Work", "become", "(LPullSaw$Work;)V"⟩ : Cond) ∈ tb_G := tb_in (List.mem_of_getElem? (i := 907) (by decide +kernel)) rfl
theorem tq_908 : (.methodLink "PullSawLaw" 153 ⟨"PullSaw", "goBack", "(I)I"⟩ : Cond) ∈ tb_G := tb_in (List.mem_of_getElem? (i := 908) (by decide +kernel)) rfl
theorem tq_909 : (.instanceMethod ⟨"PullSaw", "goBack", "(I)I"⟩ : Cond) ∈ tb_G := tb_in (List.mem_of_getElem? (i := 909) (by decide +kernel)) rfl
theorem tq_910 : (.selects "PullSaw" ⟨"PullSaw", "goBack", "(I)I"⟩ ⟨"PullSaw", "goBack", "(I)I"⟩ : Cond) ∈ tb_G := tb_in (List.mem_of_getElem? (i := 910) (by decide +kernel)) rfl
set_option maxRecDepth 100000 in
theorem tq_911 : (.code ⟨"PullSaw", "goBack", "(I)I"⟩ prog_1_method_36_code 3 (some .int) : Cond) ∈ tb_G := tb_in (List.mem_of_getElem? (i := 911) rfl) rfl
theorem tq_912 : (.classLink "PullSawLaw" 10 "PullSawModel" : Cond) ∈ tb_G := tb_in (List.mem_of_getElem? (i := 912) (by decide +kernel)) rfl
theorem tq_913 : (.instantiable "PullSawModel" 35 : Cond) ∈ tb_G := tb_in (List.mem_of_getElem? (i := 913) (by decide +kernel)) rfl
theorem tq_914 : (.methodLink "PullSawLaw" 12 ⟨"PullSawModel", "<init>", "()V"⟩ : Cond) ∈ tb_G := tb_in (List.mem_of_getElem? (i := 914) (by decide +kernel)) rfl
theorem tq_915 : (.instanceMethod ⟨"PullSawModel", "<init>", "()V"⟩ : Cond) ∈ tb_G := tb_in (List.mem_of_getElem? (i := 915) (by decide +kernel)) rfl
set_option maxRecDepth 100000 in
theorem tq_916 : (.code ⟨"PullSawModel", "<init>", "()V"⟩ prog_12_method_1_code 1 none : Cond) ∈ tb_G := tb_in (List.mem_of_getElem? (i := 916) rfl) rfl
theorem tq_917 : (.methodLink "PullSawModel" 1 ⟨"java/lang/Object", "<init>", "()V"⟩ : Cond) ∈ tb_G := tb_in (List.mem_of_getElem? (i := 917) (by decide +kernel)) rfl
theorem tq_918 : (.fieldLink "PullSawModel" 7 "PullSawModel" "w" "[I" : Cond) ∈ tb_G := tb_in (List.mem_of_getElem? (i := 918) (by decide +kernel)) rfl
theorem tq_919 : (.fieldLink "PullSawModel" 13 "PullSawModel" "isKept" "[Z" : Cond) ∈ tb_G := tb_in (List.mem_of_getElem? (i := 919) (by decide +kernel)) rfl
theorem tq_920 : (.fieldLink "PullSawModel" 144 "PullSawModel" "layers" "I" : Cond) ∈ tb_G := tb_in (List.mem_of_getElem? (i := 920) (by decide +kernel)) rfl
theorem tq_921 : (.fieldLink "PullSawModel" 147 "PullSawModel" "people" "I" : Cond) ∈ tb_G := tb_in (List.mem_of_getElem? (i := 921) (by decide +kernel)) rfl
theorem tq_922 : (.fieldLink "PullSawModel" 60 "PullSawModel" "limit" "I" : Cond) ∈ tb_G := tb_in (List.mem_of_getElem? (i := 922) (by decide +kernel)) rfl
theorem tq_923 : (.fieldLink "PullSawModel" 150 "PullSawModel" "resin" "I" : Cond) ∈ tb_G := tb_in (List.mem_of_getElem? (i := 923) (by decide +kernel)) rfl
theorem tq_924 : (.fieldLink "PullSawModel" 63 "PullSawModel" "closes" "I" : Cond) ∈ tb_G := tb_in (List.mem_of_getElem? (i := 924) (by decide +kernel)) rfl
theorem tq_925 : (.fieldLink "PullSawModel" 99 "PullSawModel" "newLayers" "I" : Cond) ∈ tb_G := tb_in (List.mem_of_getElem? (i := 925) (by decide +kernel)) rfl
theorem tq_926 : (.fieldLink "PullSawModel" 106 "PullSawModel" "newPeople" "I" : Cond) ∈ tb_G := tb_in (List.mem_of_getElem? (i := 926) (by decide +kernel)) rfl
theorem tq_927 : (.fieldLink "PullSawModel" 123 "PullSawModel" "newTeeth" "I" : Cond) ∈ tb_G := tb_in (List.mem_of_getElem? (i := 927) (by decide +kernel)) rfl
theorem tq_928 : (.fieldLink "PullSawModel" 126 "PullSawModel" "newLimit" "I" : Cond) ∈ tb_G := tb_in (List.mem_of_getElem? (i := 928) (by decide +kernel)) rfl
theorem tq_929 : (.fieldLink "PullSawModel" 129 "PullSawModel" "newResin" "I" : Cond) ∈ tb_G := tb_in (List.mem_of_getElem? (i := 929) (by decide +kernel)) rfl
theorem tq_930 : (.fieldLink "PullSawModel" 132 "PullSawModel" "newCloses" "I" : Cond) ∈ tb_G := tb_in (List.mem_of_getElem? (i := 930) (by decide +kernel)) rfl
theorem tq_931 : (.fieldLink "PullSawModel" 113 "PullSawModel" "told" "I" : Cond) ∈ tb_G := tb_in (List.mem_of_getElem? (i := 931) (by decide +kernel)) rfl
theorem tq_932 : (.fieldLink "PullSawModel" 17 "PullSawModel" "wood" "[I" : Cond) ∈ tb_G := tb_in (List.mem_of_getElem? (i := 932) (by decide +kernel)) rfl
theorem tq_933 : (.fieldLink "PullSawModel" 20 "PullSawModel" "force" "[I" : Cond) ∈ tb_G := tb_in (List.mem_of_getElem? (i := 933) (by decide +kernel)) rfl
theorem tq_934 : (.fieldLink "PullSawModel" 23 "PullSawModel" "height" "[I" : Cond) ∈ tb_G := tb_in (List.mem_of_getElem? (i := 934) (by decide +kernel)) rfl
theorem tq_935 : (.fieldLink "PullSawModel" 26 "PullSawModel" "tires" "[I" : Cond) ∈ tb_G := tb_in (List.mem_of_getElem? (i := 935) (by decide +kernel)) rfl
theorem tq_936 : (.fieldLink "PullSawModel" 29 "PullSawModel" "habit" "[I" : Cond) ∈ tb_G := tb_in (List.mem_of_getElem? (i := 936) (by decide +kernel)) rfl
theorem tq_937 : (.fieldLink "PullSawModel" 32 "PullSawModel" "bent" "[I" : Cond) ∈ tb_G := tb_in (List.mem_of_getElem? (i := 937) (by decide +kernel)) rfl
theorem tq_938 : (.fieldLink "PullSawModel" 35 "PullSawModel" "text" "[I" : Cond) ∈ tb_G := tb_in (List.mem_of_getElem? (i := 938) (by decide +kernel)) rfl
theorem tq_939 : (.fieldLink "PullSawModel" 73 "PullSawModel" "textSize" "I" : Cond) ∈ tb_G := tb_in (List.mem_of_getElem? (i := 939) (by decide +kernel)) rfl
theorem tq_940 : (.fieldLink "PullSawModel" 77 "PullSawModel" "at" "I" : Cond) ∈ tb_G := tb_in (List.mem_of_getElem? (i := 940) (by decide +kernel)) rfl
theorem tq_941 : (.fieldLink "PullSawModel" 87 "PullSawModel" "first" "I" : Cond) ∈ tb_G := tb_in (List.mem_of_getElem? (i := 941) (by decide +kernel)) rfl
theorem tq_942 : (.fieldLink "PullSawModel" 80 "PullSawModel" "faultOf" "I" : Cond) ∈ tb_G := tb_in (List.mem_of_getElem? (i := 942) (by decide +kernel)) rfl
theorem tq_943 : (.fieldLink "PullSawModel" 38 "PullSawModel" "fault" "I" : Cond) ∈ tb_G := tb_in (List.mem_of_getElem? (i := 943) (by decide +kernel)) rfl
theorem tq_944 : (.fieldLink "PullSawModel" 163 "PullSawModel" "undoMany" "I" : Cond) ∈ tb_G := tb_in (List.mem_of_getElem? (i := 944) (by decide +kernel)) rfl
theorem tq_945 : (.fieldLink "PullSawModel" 42 "PullSawModel" "change" "[I" : Cond) ∈ tb_G := tb_in (List.mem_of_getElem? (i := 945) (by decide +kernel)) rfl
theorem tq_946 : (.fieldLink "PullSawModel" 45 "PullSawModel" "changeThen" "[I" : Cond) ∈ tb_G := tb_in (List.mem_of_getElem? (i := 946) (by decide +kernel)) rfl
theorem tq_947 : (.fieldLink "PullSawModel" 48 "PullSawModel" "late" "[I" : Cond) ∈ tb_G := tb_in (List.mem_of_getElem? (i := 947) (by decide +kernel)) rfl
theorem tq_948 : (.fieldLink "PullSawModel" 51 "PullSawModel" "lateThen" "[I" : Cond) ∈ tb_G := tb_in (List.mem_of_getElem? (i := 948) (by decide +kernel)) rfl
theorem tq_949 : (.fieldLink "PullSawModel" 54 "PullSawModel" "seen" "[I" : Cond) ∈ tb_G := tb_in (List.mem_of_getElem? (i := 949) (by decide +kernel)) rfl
theorem tq_950 : (.fieldLink "PullSawModel" 157 "PullSawModel" "seenMany" "I" : Cond) ∈ tb_G := tb_in (List.mem_of_getElem? (i := 950) (by decide +kernel)) rfl
theorem tq_951 : (.fieldLink "PullSawModel" 57 "PullSawModel" "book" "[I" : Cond) ∈ tb_G := tb_in (List.mem_of_getElem? (i := 951) (by decide +kernel)) rfl
theorem tq_952 : (.fieldLink "PullSawModel" 160 "PullSawModel" "written" "I" : Cond) ∈ tb_G := tb_in (List.mem_of_getElem? (i := 952) (by decide +kernel)) rfl
theorem tq_953 : (.laysFinal "PullSawModel" "PullSawModel" "w" "[I" : Cond) ∈ tb_G := tb_in (List.mem_of_getElem? (i := 953) (by decide +kernel)) rfl
theorem tq_955 : (.laysFinal "PullSawModel" "PullSawModel" "isKept" "[Z" : Cond) ∈ tb_G := tb_in (List.mem_of_getElem? (i := 955) (by decide +kernel)) rfl
theorem tq_957 : (.lays "PullSawModel" "PullSawModel" "layers" "I" : Cond) ∈ tb_G := tb_in (List.mem_of_getElem? (i := 957) (by decide +kernel)) rfl
theorem tq_959 : (.lays "PullSawModel" "PullSawModel" "people" "I" : Cond) ∈ tb_G := tb_in (List.mem_of_getElem? (i := 959) (by decide +kernel)) rfl
theorem tq_961 : (.lays "PullSawModel" "PullSawModel" "limit" "I" : Cond) ∈ tb_G := tb_in (List.mem_of_getElem? (i := 961) (by decide +kernel)) rfl
theorem tq_963 : (.lays "PullSawModel" "PullSawModel" "resin" "I" : Cond) ∈ tb_G := tb_in (List.mem_of_getElem? (i := 963) (by decide +kernel)) rfl
theorem tq_965 : (.lays "PullSawModel" "PullSawModel" "closes" "I" : Cond) ∈ tb_G := tb_in (List.mem_of_getElem? (i := 965) (by decide +kernel)) rfl
theorem tq_967 : (.lays "PullSawModel" "PullSawModel" "newLayers" "I" : Cond) ∈ tb_G := tb_in (List.mem_of_getElem? (i := 967) (by decide +kernel)) rfl
theorem tq_969 : (.lays "PullSawModel" "PullSawModel" "newPeople" "I" : Cond) ∈ tb_G := tb_in (List.mem_of_getElem? (i := 969) (by decide +kernel)) rfl
theorem tq_971 : (.lays "PullSawModel" "PullSawModel" "newTeeth" "I" : Cond) ∈ tb_G := tb_in (List.mem_of_getElem? (i := 971) (by decide +kernel)) rfl
theorem tq_973 : (.lays "PullSawModel" "PullSawModel" "newLimit" "I" : Cond) ∈ tb_G := tb_in (List.mem_of_getElem? (i := 973) (by decide +kernel)) rfl
theorem tq_975 : (.lays "PullSawModel" "PullSawModel" "newResin" "I" : Cond) ∈ tb_G := tb_in (List.mem_of_getElem? (i := 975) (by decide +kernel)) rfl
theorem tq_977 : (.lays "PullSawModel" "PullSawModel" "newCloses" "I" : Cond) ∈ tb_G := tb_in (List.mem_of_getElem? (i := 977) (by decide +kernel)) rfl
theorem tq_979 : (.lays "PullSawModel" "PullSawModel" "told" "I" : Cond) ∈ tb_G := tb_in (List.mem_of_getElem? (i := 979) (by decide +kernel)) rfl
theorem tq_981 : (.laysFinal "PullSawModel" "PullSawModel" "wood" "[I" : Cond) ∈ tb_G := tb_in (List.mem_of_getElem? (i := 981) (by decide +kernel)) rfl
theorem tq_983 : (.laysFinal "PullSawModel" "PullSawModel" "force" "[I" : Cond) ∈ tb_G := tb_in (List.mem_of_getElem? (i := 983) (by decide +kernel)) rfl
theorem tq_985 : (.laysFinal "PullSawModel" "PullSawModel" "height" "[I" : Cond) ∈ tb_G := tb_in (List.mem_of_getElem? (i := 985) (by decide +kernel)) rfl
theorem tq_987 : (.laysFinal "PullSawModel" "PullSawModel" "tires" "[I" : Cond) ∈ tb_G := tb_in (List.mem_of_getElem? (i := 987) (by decide +kernel)) rfl
theorem tq_989 : (.laysFinal "PullSawModel" "PullSawModel" "habit" "[I" : Cond) ∈ tb_G := tb_in (List.mem_of_getElem? (i := 989) (by decide +kernel)) rfl
theorem tq_991 : (.laysFinal "PullSawModel" "PullSawModel" "bent" "[I" : Cond) ∈ tb_G := tb_in (List.mem_of_getElem? (i := 991) (by decide +kernel)) rfl
theorem tq_993 : (.laysFinal "PullSawModel" "PullSawModel" "text" "[I" : Cond) ∈ tb_G := tb_in (List.mem_of_getElem? (i := 993) (by decide +kernel)) rfl
theorem tq_995 : (.lays "PullSawModel" "PullSawModel" "textSize" "I" : Cond) ∈ tb_G := tb_in (List.mem_of_getElem? (i := 995) (by decide +kernel)) rfl
theorem tq_997 : (.lays "PullSawModel" "PullSawModel" "at" "I" : Cond) ∈ tb_G := tb_in (List.mem_of_getElem? (i := 997) (by decide +kernel)) rfl
theorem tq_999 : (.lays "PullSawModel" "PullSawModel" "first" "I" : Cond) ∈ tb_G := tb_in (List.mem_of_getElem? (i := 999) (by decide +kernel)) rfl
theorem tq_1001 : (.lays "PullSawModel" "PullSawModel" "faultOf" "I" : Cond) ∈ tb_G := tb_in (List.mem_of_getElem? (i := 1001) (by decide +kernel)) rfl
theorem tq_1003 : (.lays "PullSawModel" "PullSawModel" "fault" "I" : Cond) ∈ tb_G := tb_in (List.mem_of_getElem? (i := 1003) (by decide +kernel)) rfl
theorem tq_1005 : (.lays "PullSawModel" "PullSawModel" "undoMany" "I" : Cond) ∈ tb_G := tb_in (List.mem_of_getElem? (i := 1005) (by decide +kernel)) rfl
theorem tq_1007 : (.laysFinal "PullSawModel" "PullSawModel" "change" "[I" : Cond) ∈ tb_G := tb_in (List.mem_of_getElem? (i := 1007) (by decide +kernel)) rfl
theorem tq_1009 : (.laysFinal "PullSawModel" "PullSawModel" "changeThen" "[I" : Cond) ∈ tb_G := tb_in (List.mem_of_getElem? (i := 1009) (by decide +kernel)) rfl
theorem tq_1011 : (.laysFinal "PullSawModel" "PullSawModel" "late" "[I" : Cond) ∈ tb_G := tb_in (List.mem_of_getElem? (i := 1011) (by decide +kernel)) rfl
theorem tq_1013 : (.laysFinal "PullSawModel" "PullSawModel" "lateThen" "[I" : Cond) ∈ tb_G := tb_in (List.mem_of_getElem? (i := 1013) (by decide +kernel)) rfl
theorem tq_1015 : (.laysFinal "PullSawModel" "PullSawModel" "seen" "[I" : Cond) ∈ tb_G := tb_in (List.mem_of_getElem? (i := 1015) (by decide +kernel)) rfl
theorem tq_1017 : (.lays "PullSawModel" "PullSawModel" "seenMany" "I" : Cond) ∈ tb_G := tb_in (List.mem_of_getElem? (i := 1017) (by decide +kernel)) rfl
theorem tq_1019 : (.laysFinal "PullSawModel" "PullSawModel" "book" "[I" : Cond) ∈ tb_G := tb_in (List.mem_of_getElem? (i := 1019) (by decide +kernel)) rfl
theorem tq_1021 : (.lays "PullSawModel" "PullSawModel" "written" "I" : Cond) ∈ tb_G := tb_in (List.mem_of_getElem? (i := 1021) (by decide +kernel)) rfl
theorem tq_1024 : (.arrayClass .boolean : Cond) ∈ tb_G := tb_in (List.mem_of_getElem? (i := 1024) (by decide +kernel)) rfl
theorem tq_1025 : (.methodLink "PullSawLaw" 17 ⟨"PullSawModel", "feed", "(I)I"⟩ : Cond) ∈ tb_G := tb_in (List.mem_of_getElem? (i := 1025) (by decide +kernel)) rfl
theorem tq_1026 : (.instanceMethod ⟨"PullSawModel", "feed", "(I)I"⟩ : Cond) ∈ tb_G := tb_in (List.mem_of_getElem? (i := 1026) (by decide +kernel)) rfl
theorem tq_1027 : (.selects "PullSawModel" ⟨"PullSawModel", "feed", "(I)I"⟩ ⟨"PullSawModel", "feed", "(I)I"⟩ : Cond) ∈ tb_G := tb_in (List.mem_of_getElem? (i := 1027) (by decide +kernel)) rfl
set_option maxRecDepth 100000 in
theorem tq_1028 : (.code ⟨"PullSawModel", "feed", "(I)I"⟩ prog_12_method_6_code 2 (some .int) : Cond) ∈ tb_G := tb_in (List.mem_of_getElem? (i := 1028) rfl) rfl
theorem tq_1029 : (.constantLong "PullSawModel" 66 (255 : Int64) : Cond) ∈ tb_G := tb_in (List.mem_of_getElem? (i := 1029) (by decide +kernel)) rfl
theorem tq_1030 : (.methodLink "PullSawModel" 68 ⟨"PullSawModel", "in", "(JJJ)Z"⟩ : Cond) ∈ tb_G := tb_in (List.mem_of_getElem? (i := 1030) (by decide +kernel)) rfl
theorem tq_1031 : (.static ⟨"PullSawModel", "in", "(JJJ)Z"⟩ : Cond) ∈ tb_G := tb_in (List.mem_of_getElem? (i := 1031) (by decide +kernel)) rfl
set_option maxRecDepth 100000 in
theorem tq_1032 : (.code ⟨"PullSawModel", "in", "(JJJ)Z"⟩ prog_12_method_3_code 6 (some .boolean) : Cond) ∈ tb_G := tb_in (List.mem_of_getElem? (i := 1032) rfl) rfl
theorem tq_1033 : (.constant "PullSawModel" 72 (-1000000002 : Int32) : Cond) ∈ tb_G := tb_in (List.mem_of_getElem? (i := 1033) (by decide +kernel)) rfl
theorem tq_1034 : (.constant "PullSawModel" 76 (-1000000004 : Int32) : Cond) ∈ tb_G := tb_in (List.mem_of_getElem? (i := 1034) (by decide +kernel)) rfl
theorem tq_1035 : (.methodLink "PullSawLaw" 22 ⟨"PullSawModel", "yard", "()I"⟩ : Cond) ∈ tb_G := tb_in (List.mem_of_getElem? (i := 1035) (by decide +kernel)) rfl
theorem tq_1036 : (.instanceMethod ⟨"PullSawModel", "yard", "()I"⟩ : Cond) ∈ tb_G := tb_in (List.mem_of_getElem? (i := 1036) (by decide +kernel)) rfl
theorem tq_1037 : (.selects "PullSawModel" ⟨"PullSawModel", "yard", "()I"⟩ ⟨"PullSawModel", "yard", "()I"⟩ : Cond) ∈ tb_G := tb_in (List.mem_of_getElem? (i := 1037) (by decide +kernel)) rfl
set_option maxRecDepth 100000 in
theorem tq_1038 : (.code ⟨"PullSawModel", "yard", "()I"⟩ prog_12_method_14_code 1 (some .int) : Cond) ∈ tb_G := tb_in (List.mem_of_getElem? (i := 1038) rfl) rfl
theorem tq_1039 : (.methodLink "PullSawModel" 83 ⟨"PullSawModel", "here", "()I"⟩ : Cond) ∈ tb_G := tb_in (List.mem_of_getElem? (i := 1039) (by decide +kernel)) rfl
theorem tq_1041 : (.instanceMethod ⟨"PullSawModel", "here", "()I"⟩ : Cond) ∈ tb_G := tb_in (List.mem_of_getElem? (i := 1041) (by decide +kernel)) rfl
set_option maxRecDepth 100000 in
theorem tq_1042 : (.code ⟨"PullSawModel", "here", "()I"⟩ prog_12_method_7_code 1 (some .int) : Cond) ∈ tb_G := tb_in (List.mem_of_getElem? (i := 1042) rfl) rfl
theorem tq_1043 : (.methodLink "PullSawModel" 138 ⟨"PullSawModel", "takeClause", "()V"⟩ : Cond) ∈ tb_G := tb_in (List.mem_of_getElem? (i := 1043) (by decide +kernel)) rfl
theorem tq_1045 : (.instanceMethod ⟨"PullSawModel", "takeClause", "()V"⟩ : Cond) ∈ tb_G := tb_in (List.mem_of_getElem? (i := 1045) (by decide +kernel)) rfl
set_option maxRecDepth 100000 in
theorem tq_1046 : (.code ⟨"PullSawModel", "takeClause", "()V"⟩ prog_12_method_13_code 5 none : Cond) ∈ tb_G := tb_in (List.mem_of_getElem? (i := 1046) rfl) rfl
theorem tq_1047 : (.methodLink "PullSawModel" 109 ⟨"PullSawModel", "wordOf", "(I)I"⟩ : Cond) ∈ tb_G := tb_in (List.mem_of_getElem? (i := 1047) (by decide +kernel)) rfl
theorem tq_1048 : (.static ⟨"PullSawModel", "wordOf", "(I)I"⟩ : Cond) ∈ tb_G := tb_in (List.mem_of_getElem? (i := 1048) (by decide +kernel)) rfl
set_option maxRecDepth 100000 in
theorem tq_1049 : (.code ⟨"PullSawModel", "wordOf", "(I)I"⟩ prog_12_method_12_code 1 (some .int) : Cond) ∈ tb_G := tb_in (List.mem_of_getElem? (i := 1049) rfl) rfl
theorem tq_1050 : (.methodLink "PullSawModel" 116 ⟨"PullSawModel", "has", "(II)Z"⟩ : Cond) ∈ tb_G := tb_in (List.mem_of_getElem? (i := 1050) (by decide +kernel)) rfl
theorem tq_1051 : (.static ⟨"PullSawModel", "has", "(II)Z"⟩ : Cond) ∈ tb_G := tb_in (List.mem_of_getElem? (i := 1051) (by decide +kernel)) rfl
set_option maxRecDepth 100000 in
theorem tq_1052 : (.code ⟨"PullSawModel", "has", "(II)Z"⟩ prog_12_method_5_code 2 (some .boolean) : Cond) ∈ tb_G := tb_in (List.mem_of_getElem? (i := 1052) rfl) rfl
theorem tq_1053 : (.methodLink "PullSawModel" 94 ⟨"PullSawModel", "want", "(ZII)Z"⟩ : Cond) ∈ tb_G := tb_in (List.mem_of_getElem? (i := 1053) (by decide +kernel)) rfl
theorem tq_1055 : (.instanceMethod ⟨"PullSawModel", "want", "(ZII)Z"⟩ : Cond) ∈ tb_G := tb_in (List.mem_of_getElem? (i := 1055) (by decide +kernel)) rfl
set_option maxRecDepth 100000 in
theorem tq_1056 : (.code ⟨"PullSawModel", "want", "(ZII)Z"⟩ prog_12_method_8_code 4 (some .boolean) : Cond) ∈ tb_G := tb_in (List.mem_of_getElem? (i := 1056) rfl) rfl
theorem tq_1057 : (.methodLink "PullSawModel" 120 ⟨"PullSawModel", "takeLog", "()V"⟩ : Cond) ∈ tb_G := tb_in (List.mem_of_getElem? (i := 1057) (by decide +kernel)) rfl
theorem tq_1059 : (.instanceMethod ⟨"PullSawModel", "takeLog", "()V"⟩ : Cond) ∈ tb_G := tb_in (List.mem_of_getElem? (i := 1059) (by decide +kernel)) rfl
set_option maxRecDepth 100000 in
theorem tq_1060 : (.code ⟨"PullSawModel", "takeLog", "()V"⟩ prog_12_method_10_code 2 none : Cond) ∈ tb_G := tb_in (List.mem_of_getElem? (i := 1060) rfl) rfl
theorem tq_1061 : (.methodLink "PullSawModel" 102 ⟨"PullSawModel", "takeNumber", "(II)I"⟩ : Cond) ∈ tb_G := tb_in (List.mem_of_getElem? (i := 1061) (by decide +kernel)) rfl
theorem tq_1063 : (.instanceMethod ⟨"PullSawModel", "takeNumber", "(II)I"⟩ : Cond) ∈ tb_G := tb_in (List.mem_of_getElem? (i := 1063) (by decide +kernel)) rfl
set_option maxRecDepth 100000 in
theorem tq_1064 : (.code ⟨"PullSawModel", "takeNumber", "(II)I"⟩ prog_12_method_9_code 6 (some .int) : Cond) ∈ tb_G := tb_in (List.mem_of_getElem? (i := 1064) rfl) rfl
theorem tq_1065 : (.constantLong "PullSawModel" 90 (48 : Int64) : Cond) ∈ tb_G := tb_in (List.mem_of_getElem? (i := 1065) (by decide +kernel)) rfl
theorem tq_1066 : (.constantLong "PullSawModel" 92 (57 : Int64) : Cond) ∈ tb_G := tb_in (List.mem_of_getElem? (i := 1066) (by decide +kernel)) rfl
theorem tq_1067 : (.constant "PullSawModel" 98 (99999 : Int32) : Cond) ∈ tb_G := tb_in (List.mem_of_getElem? (i := 1067) (by decide +kernel)) rfl
theorem tq_1068 : (.methodLink "PullSawModel" 135 ⟨"PullSawModel", "takePerson", "()V"⟩ : Cond) ∈ tb_G := tb_in (List.mem_of_getElem? (i := 1068) (by decide +kernel)) rfl
theorem tq_1070 : (.instanceMethod ⟨"PullSawModel", "takePerson", "()V"⟩ : Cond) ∈ tb_G := tb_in (List.mem_of_getElem? (i := 1070) (by decide +kernel)) rfl
set_option maxRecDepth 100000 in
theorem tq_1071 : (.code ⟨"PullSawModel", "takePerson", "()V"⟩ prog_12_method_11_code 2 none : Cond) ∈ tb_G := tb_in (List.mem_of_getElem? (i := 1071) rfl) rfl
theorem tq_1072 : (.methodLink "PullSawModel" 141 ⟨"PullSawModel", "take", "()V"⟩ : Cond) ∈ tb_G := tb_in (List.mem_of_getElem? (i := 1072) (by decide +kernel)) rfl
theorem tq_1074 : (.instanceMethod ⟨"PullSawModel", "take", "()V"⟩ : Cond) ∈ tb_G := tb_in (List.mem_of_getElem? (i := 1074) (by decide +kernel)) rfl
set_option maxRecDepth 100000 in
theorem tq_1075 : (.code ⟨"PullSawModel", "take", "()V"⟩ prog_12_method_15_code 2 none : Cond) ∈ tb_G := tb_in (List.mem_of_getElem? (i := 1075) rfl) rfl
theorem tq_1076 : (.methodLink "PullSawModel" 153 ⟨"PullSawModel", "begin", "(III)V"⟩ : Cond) ∈ tb_G := tb_in (List.mem_of_getElem? (i := 1076) (by decide +kernel)) rfl
theorem tq_1078 : (.instanceMethod ⟨"PullSawModel", "begin", "(III)V"⟩ : Cond) ∈ tb_G := tb_in (List.mem_of_getElem? (i := 1078) (by decide +kernel)) rfl
set_option maxRecDepth 100000 in
theorem tq_1079 : (.code ⟨"PullSawModel", "begin", "(III)V"⟩ prog_12_method_16_code 5 none : Cond) ∈ tb_G := tb_in (List.mem_of_getElem? (i := 1079) rfl) rfl
theorem tq_1080 : (.methodLink "PullSawLaw" 26 ⟨"PullSawModel", "fault", "()I"⟩ : Cond) ∈ tb_G := tb_in (List.mem_of_getElem? (i := 1080) (by decide +kernel)) rfl
theorem tq_1081 : (.instanceMethod ⟨"PullSawModel", "fault", "()I"⟩ : Cond) ∈ tb_G := tb_in (List.mem_of_getElem? (i := 1081) (by decide +kernel)) rfl
theorem tq_1082 : (.selects "PullSawModel" ⟨"PullSawModel", "fault", "()I"⟩ ⟨"PullSawModel", "fault", "()I"⟩ : Cond) ∈ tb_G := tb_in (List.mem_of_getElem? (i := 1082) (by decide +kernel)) rfl
set_option maxRecDepth 100000 in
theorem tq_1083 : (.code ⟨"PullSawModel", "fault", "()I"⟩ prog_12_method_17_code 1 (some .int) : Cond) ∈ tb_G := tb_in (List.mem_of_getElem? (i := 1083) rfl) rfl
theorem tq_1084 : (.methodLink "PullSawLaw" 30 ⟨"PullSawModel", "told", "(I)I"⟩ : Cond) ∈ tb_G := tb_in (List.mem_of_getElem? (i := 1084) (by decide +kernel)) rfl
theorem tq_1085 : (.instanceMethod ⟨"PullSawModel", "told", "(I)I"⟩ : Cond) ∈ tb_G := tb_in (List.mem_of_getElem? (i := 1085) (by decide +kernel)) rfl
theorem tq_1086 : (.selects "PullSawModel" ⟨"PullSawModel", "told", "(I)I"⟩ ⟨"PullSawModel", "told", "(I)I"⟩ : Cond) ∈ tb_G := tb_in (List.mem_of_getElem? (i := 1086) (by decide +kernel)) rfl
set_option maxRecDepth 100000 in
theorem tq_1087 : (.code ⟨"PullSawModel", "told", "(I)I"⟩ prog_12_method_21_code 2 (some .int) : Cond) ∈ tb_G := tb_in (List.mem_of_getElem? (i := 1087) rfl) rfl
theorem tq_1088 : (.methodLink "PullSawModel" 166 ⟨"PullSawModel", "isThrough", "(I)Z"⟩ : Cond) ∈ tb_G := tb_in (List.mem_of_getElem? (i := 1088) (by decide +kernel)) rfl
theorem tq_1090 : (.instanceMethod ⟨"PullSawModel", "isThrough", "(I)Z"⟩ : Cond) ∈ tb_G := tb_in (List.mem_of_getElem? (i := 1090) (by decide +kernel)) rfl
set_option maxRecDepth 100000 in
theorem tq_1091 : (.code ⟨"PullSawModel", "isThrough", "(I)Z"⟩ prog_12_method_19_code 2 (some .boolean) : Cond) ∈ tb_G := tb_in (List.mem_of_getElem? (i := 1091) rfl) rfl
theorem tq_1092 : (.methodLink "PullSawModel" 170 ⟨"PullSawModel", "one", "(Z)I"⟩ : Cond) ∈ tb_G := tb_in (List.mem_of_getElem? (i := 1092) (by decide +kernel)) rfl
theorem tq_1093 : (.static ⟨"PullSawModel", "one", "(Z)I"⟩ : Cond) ∈ tb_G := tb_in (List.mem_of_getElem? (i := 1093) (by decide +kernel)) rfl
set_option maxRecDepth 100000 in
theorem tq_1094 : (.code ⟨"PullSawModel", "one", "(Z)I"⟩ prog_12_method_4_code 1 (some .int) : Cond) ∈ tb_G := tb_in (List.mem_of_getElem? (i := 1094) rfl) rfl
theorem tq_1095 : (.methodLink "PullSawLaw" 34 ⟨"PullSawModel", "wood", "(I)I"⟩ : Cond) ∈ tb_G := tb_in (List.mem_of_getElem? (i := 1095) (by decide +kernel)) rfl
theorem tq_1096 : (.instanceMethod ⟨"PullSawModel", "wood", "(I)I"⟩ : Cond) ∈ tb_G := tb_in (List.mem_of_getElem? (i := 1096) (by decide +kernel)) rfl
theorem tq_1097 : (.selects "PullSawModel" ⟨"PullSawModel", "wood", "(I)I"⟩ ⟨"PullSawModel", "wood", "(I)I"⟩ : Cond) ∈ tb_G := tb_in (List.mem_of_getElem? (i := 1097) (by decide +kernel)) rfl
set_option maxRecDepth 100000 in
theorem tq_1098 : (.code ⟨"PullSawModel", "wood", "(I)I"⟩ prog_12_method_22_code 2 (some .int) : Cond) ∈ tb_G := tb_in (List.mem_of_getElem? (i := 1098) rfl) rfl
theorem tq_1099 : (.constant "PullSawModel" 174 (-1000000001 : Int32) : Cond) ∈ tb_G := tb_in (List.mem_of_getElem? (i := 1099) (by decide +kernel)) rfl
theorem tq_1100 : (.methodLink "PullSawLaw" 39 ⟨"PullSawModel", "person", "(II)I"⟩ : Cond) ∈ tb_G := tb_in (List.mem_of_getElem? (i := 1100) (by decide +kernel)) rfl
theorem tq_1101 : (.instanceMethod ⟨"PullSawModel", "person", "(II)I"⟩ : Cond) ∈ tb_G := tb_in (List.mem_of_getElem? (i := 1101) (by decide +kernel)) rfl
theorem tq_1102 : (.selects "PullSawModel" ⟨"PullSawModel", "person", "(II)I"⟩ ⟨"PullSawModel", "person", "(II)I"⟩ : Cond) ∈ tb_G := tb_in (List.mem_of_getElem? (i := 1102) (by decide +kernel)) rfl
set_option maxRecDepth 100000 in
theorem tq_1103 : (.code ⟨"PullSawModel", "person", "(II)I"⟩ prog_12_method_23_code 3 (some .int) : Cond) ∈ tb_G := tb_in (List.mem_of_getElem? (i := 1103) rfl) rfl
theorem tq_1104 : (.methodLink "PullSawModel" 175 ⟨"PullSawModel", "isPerson", "(I)Z"⟩ : Cond) ∈ tb_G := tb_in (List.mem_of_getElem? (i := 1104) (by decide +kernel)) rfl
theorem tq_1106 : (.instanceMethod ⟨"PullSawModel", "isPerson", "(I)Z"⟩ : Cond) ∈ tb_G := tb_in (List.mem_of_getElem? (i := 1106) (by decide +kernel)) rfl
set_option maxRecDepth 100000 in
theorem tq_1107 : (.code ⟨"PullSawModel", "isPerson", "(I)Z"⟩ prog_12_method_18_code 2 (some .boolean) : Cond) ∈ tb_G := tb_in (List.mem_of_getElem? (i := 1107) rfl) rfl
theorem tq_1108 : (.methodLink "PullSawLaw" 43 ⟨"PullSawModel", "log", "(II)I"⟩ : Cond) ∈ tb_G := tb_in (List.mem_of_getElem? (i := 1108) (by decide +kernel)) rfl
theorem tq_1109 : (.instanceMethod ⟨"PullSawModel", "log", "(II)I"⟩ : Cond) ∈ tb_G := tb_in (List.mem_of_getElem? (i := 1109) (by decide +kernel)) rfl
theorem tq_1110 : (.selects "PullSawModel" ⟨"PullSawModel", "log", "(II)I"⟩ ⟨"PullSawModel", "log", "(II)I"⟩ : Cond) ∈ tb_G := tb_in (List.mem_of_getElem? (i := 1110) (by decide +kernel)) rfl
set_option maxRecDepth 100000 in
theorem tq_1111 : (.code ⟨"PullSawModel", "log", "(II)I"⟩ prog_12_method_31_code 3 (some .int) : Cond) ∈ tb_G := tb_in (List.mem_of_getElem? (i := 1111) rfl) rfl
theorem tq_1112 : (.constant "PullSawModel" 194 (-1000000003 : Int32) : Cond) ∈ tb_G := tb_in (List.mem_of_getElem? (i := 1112) (by decide +kernel)) rfl
theorem tq_1113 : (.methodLink "PullSawLaw" 47 ⟨"PullSawModel", "stroke", "(I)I"⟩ : Cond) ∈ tb_G := tb_in (List.mem_of_getElem? (i := 1113) (by decide +kernel)) rfl
theorem tq_1114 : (.instanceMethod ⟨"PullSawModel", "stroke", "(I)I"⟩ : Cond) ∈ tb_G := tb_in (List.mem_of_getElem? (i := 1114) (by decide +kernel)) rfl
theorem tq_1115 : (.selects "PullSawModel" ⟨"PullSawModel", "stroke", "(I)I"⟩ ⟨"PullSawModel", "stroke", "(I)I"⟩ : Cond) ∈ tb_G := tb_in (List.mem_of_getElem? (i := 1115) (by decide +kernel)) rfl
set_option maxRecDepth 100000 in
theorem tq_1116 : (.code ⟨"PullSawModel", "stroke", "(I)I"⟩ prog_12_method_32_code 4 (some .int) : Cond) ∈ tb_G := tb_in (List.mem_of_getElem? (i := 1116) rfl) rfl
theorem tq_1117 : (.constantLong "PullSawModel" 195 (99 : Int64) : Cond) ∈ tb_G := tb_in (List.mem_of_getElem? (i := 1117) (by decide +kernel)) rfl
theorem tq_1118 : (.methodLink "PullSawModel" 197 ⟨"PullSawModel", "isPair", "()Z"⟩ : Cond) ∈ tb_G := tb_in (List.mem_of_getElem? (i := 1118) (by decide +kernel)) rfl
theorem tq_1120 : (.instanceMethod ⟨"PullSawModel", "isPair", "()Z"⟩ : Cond) ∈ tb_G := tb_in (List.mem_of_getElem? (i := 1120) (by decide +kernel)) rfl
set_option maxRecDepth 100000 in
theorem tq_1121 : (.code ⟨"PullSawModel", "isPair", "()Z"⟩ prog_12_method_20_code 1 (some .boolean) : Cond) ∈ tb_G := tb_in (List.mem_of_getElem? (i := 1121) rfl) rfl
theorem tq_1122 : (.methodLink "PullSawModel" 201 ⟨"PullSawModel", "remember", "()V"⟩ : Cond) ∈ tb_G := tb_in (List.mem_of_getElem? (i := 1122) (by decide +kernel)) rfl
theorem tq_1124 : (.instanceMethod ⟨"PullSawModel", "remember", "()V"⟩ : Cond) ∈ tb_G := tb_in (List.mem_of_getElem? (i := 1124) (by decide +kernel)) rfl
set_option maxRecDepth 100000 in
theorem tq_1125 : (.code ⟨"PullSawModel", "remember", "()V"⟩ prog_12_method_30_code 2 none : Cond) ∈ tb_G := tb_in (List.mem_of_getElem? (i := 1125) rfl) rfl
theorem tq_1126 : (.methodLink "PullSawModel" 191 ⟨"PullSawModel", "copy", "(II)V"⟩ : Cond) ∈ tb_G := tb_in (List.mem_of_getElem? (i := 1126) (by decide +kernel)) rfl
theorem tq_1128 : (.instanceMethod ⟨"PullSawModel", "copy", "(II)V"⟩ : Cond) ∈ tb_G := tb_in (List.mem_of_getElem? (i := 1128) (by decide +kernel)) rfl
set_option maxRecDepth 100000 in
theorem tq_1129 : (.code ⟨"PullSawModel", "copy", "(II)V"⟩ prog_12_method_29_code 4 none : Cond) ∈ tb_G := tb_in (List.mem_of_getElem? (i := 1129) rfl) rfl
theorem tq_1130 : (.methodLink "PullSawModel" 204 ⟨"PullSawModel", "pull", "(I)I"⟩ : Cond) ∈ tb_G := tb_in (List.mem_of_getElem? (i := 1130) (by decide +kernel)) rfl
theorem tq_1132 : (.instanceMethod ⟨"PullSawModel", "pull", "(I)I"⟩ : Cond) ∈ tb_G := tb_in (List.mem_of_getElem? (i := 1132) (by decide +kernel)) rfl
set_option maxRecDepth 100000 in
theorem tq_1133 : (.code ⟨"PullSawModel", "pull", "(I)I"⟩ prog_12_method_27_code 6 (some .int) : Cond) ∈ tb_G := tb_in (List.mem_of_getElem? (i := 1133) rfl) rfl
theorem tq_1134 : (.methodLink "PullSawModel" 184 ⟨"PullSawModel", "pullOf", "(III)I"⟩ : Cond) ∈ tb_G := tb_in (List.mem_of_getElem? (i := 1134) (by decide +kernel)) rfl
theorem tq_1136 : (.instanceMethod ⟨"PullSawModel", "pullOf", "(III)I"⟩ : Cond) ∈ tb_G := tb_in (List.mem_of_getElem? (i := 1136) (by decide +kernel)) rfl
set_option maxRecDepth 100000 in
theorem tq_1137 : (.code ⟨"PullSawModel", "pullOf", "(III)I"⟩ prog_12_method_25_code 7 (some .int) : Cond) ∈ tb_G := tb_in (List.mem_of_getElem? (i := 1137) rfl) rfl
theorem tq_1138 : (.methodLink "PullSawModel" 178 ⟨"PullSawModel", "tire", "(II)V"⟩ : Cond) ∈ tb_G := tb_in (List.mem_of_getElem? (i := 1138) (by decide +kernel)) rfl
theorem tq_1140 : (.instanceMethod ⟨"PullSawModel", "tire", "(II)V"⟩ : Cond) ∈ tb_G := tb_in (List.mem_of_getElem? (i := 1140) (by decide +kernel)) rfl
set_option maxRecDepth 100000 in
theorem tq_1141 : (.code ⟨"PullSawModel", "tire", "(II)V"⟩ prog_12_method_24_code 4 none : Cond) ∈ tb_G := tb_in (List.mem_of_getElem? (i := 1141) rfl) rfl
theorem tq_1142 : (.methodLink "PullSawModel" 188 ⟨"PullSawModel", "feel", "(III)V"⟩ : Cond) ∈ tb_G := tb_in (List.mem_of_getElem? (i := 1142) (by decide +kernel)) rfl
theorem tq_1144 : (.instanceMethod ⟨"PullSawModel", "feel", "(III)V"⟩ : Cond) ∈ tb_G := tb_in (List.mem_of_getElem? (i := 1144) (by decide +kernel)) rfl
set_option maxRecDepth 100000 in
theorem tq_1145 : (.code ⟨"PullSawModel", "feel", "(III)V"⟩ prog_12_method_26_code 6 none : Cond) ∈ tb_G := tb_in (List.mem_of_getElem? (i := 1145) rfl) rfl
theorem tq_1146 : (.constantLong "PullSawModel" 182 (4 : Int64) : Cond) ∈ tb_G := tb_in (List.mem_of_getElem? (i := 1146) (by decide +kernel)) rfl
theorem tq_1147 : (.methodLink "PullSawLaw" 51 ⟨"PullSawModel", "rest", "(I)I"⟩ : Cond) ∈ tb_G := tb_in (List.mem_of_getElem? (i := 1147) (by decide +kernel)) rfl
theorem tq_1148 : (.instanceMethod ⟨"PullSawModel", "rest", "(I)I"⟩ : Cond) ∈ tb_G := tb_in (List.mem_of_getElem? (i := 1148) (by decide +kernel)) rfl
theorem tq_1149 : (.selects "PullSawModel" ⟨"PullSawModel", "rest", "(I)I"⟩ ⟨"PullSawModel", "rest", "(I)I"⟩ : Cond) ∈ tb_G := tb_in (List.mem_of_getElem? (i := 1149) (by decide +kernel)) rfl
set_option maxRecDepth 100000 in
theorem tq_1150 : (.code ⟨"PullSawModel", "rest", "(I)I"⟩ prog_12_method_33_code 2 (some .int) : Cond) ∈ tb_G := tb_in (List.mem_of_getElem? (i := 1150) rfl) rfl
theorem tq_1151 : (.methodLink "PullSawModel" 207 ⟨"PullSawModel", "relax", "(II)V"⟩ : Cond) ∈ tb_G := tb_in (List.mem_of_getElem? (i := 1151) (by decide +kernel)) rfl
theorem tq_1153 : (.instanceMethod ⟨"PullSawModel", "relax", "(II)V"⟩ : Cond) ∈ tb_G := tb_in (List.mem_of_getElem? (i := 1153) (by decide +kernel)) rfl
set_option maxRecDepth 100000 in
theorem tq_1154 : (.code ⟨"PullSawModel", "relax", "(II)V"⟩ prog_12_method_28_code 3 none : Cond) ∈ tb_G := tb_in (List.mem_of_getElem? (i := 1154) rfl) rfl
theorem tq_1155 : (.methodLink "PullSawLaw" 55 ⟨"PullSawModel", "sides", "()I"⟩ : Cond) ∈ tb_G := tb_in (List.mem_of_getElem? (i := 1155) (by decide +kernel)) rfl
theorem tq_1156 : (.instanceMethod ⟨"PullSawModel", "sides", "()I"⟩ : Cond) ∈ tb_G := tb_in (List.mem_of_getElem? (i := 1156) (by decide +kernel)) rfl
theorem tq_1157 : (.selects "PullSawModel" ⟨"PullSawModel", "sides", "()I"⟩ ⟨"PullSawModel", "sides", "()I"⟩ : Cond) ∈ tb_G := tb_in (List.mem_of_getElem? (i := 1157) (by decide +kernel)) rfl
set_option maxRecDepth 100000 in
theorem tq_1158 : (.code ⟨"PullSawModel", "sides", "()I"⟩ prog_12_method_34_code 2 (some .int) : Cond) ∈ tb_G := tb_in (List.mem_of_getElem? (i := 1158) rfl) rfl
theorem tq_1159 : (.methodLink "PullSawLaw" 59 ⟨"PullSawModel", "oil", "()I"⟩ : Cond) ∈ tb_G := tb_in (List.mem_of_getElem? (i := 1159) (by decide +kernel)) rfl
theorem tq_1160 : (.instanceMethod ⟨"PullSawModel", "oil", "()I"⟩ : Cond) ∈ tb_G := tb_in (List.mem_of_getElem? (i := 1160) (by decide +kernel)) rfl
theorem tq_1161 : (.selects "PullSawModel" ⟨"PullSawModel", "oil", "()I"⟩ ⟨"PullSawModel", "oil", "()I"⟩ : Cond) ∈ tb_G := tb_in (List.mem_of_getElem? (i := 1161) (by decide +kernel)) rfl
set_option maxRecDepth 100000 in
theorem tq_1162 : (.code ⟨"PullSawModel", "oil", "()I"⟩ prog_12_method_35_code 2 (some .int) : Cond) ∈ tb_G := tb_in (List.mem_of_getElem? (i := 1162) rfl) rfl
theorem tq_1163 : (.methodLink "PullSawLaw" 63 ⟨"PullSawModel", "wedge", "()I"⟩ : Cond) ∈ tb_G := tb_in (List.mem_of_getElem? (i := 1163) (by decide +kernel)) rfl
theorem tq_1164 : (.instanceMethod ⟨"PullSawModel", "wedge", "()I"⟩ : Cond) ∈ tb_G := tb_in (List.mem_of_getElem? (i := 1164) (by decide +kernel)) rfl
theorem tq_1165 : (.selects "PullSawModel" ⟨"PullSawModel", "wedge", "()I"⟩ ⟨"PullSawModel", "wedge", "()I"⟩ : Cond) ∈ tb_G := tb_in (List.mem_of_getElem? (i := 1165) (by decide +kernel)) rfl
set_option maxRecDepth 100000 in
theorem tq_1166 : (.code ⟨"PullSawModel", "wedge", "()I"⟩ prog_12_method_36_code 1 (some .int) : Cond) ∈ tb_G := tb_in (List.mem_of_getElem? (i := 1166) rfl) rfl
theorem tq_1167 : (.methodLink "PullSawLaw" 67 ⟨"PullSawModel", "file", "()I"⟩ : Cond) ∈ tb_G := tb_in (List.mem_of_getElem? (i := 1167) (by decide +kernel)) rfl
theorem tq_1168 : (.instanceMethod ⟨"PullSawModel", "file", "()I"⟩ : Cond) ∈ tb_G := tb_in (List.mem_of_getElem? (i := 1168) (by decide +kernel)) rfl
theorem tq_1169 : (.selects "PullSawModel" ⟨"PullSawModel", "file", "()I"⟩ ⟨"PullSawModel", "file", "()I"⟩ : Cond) ∈ tb_G := tb_in (List.mem_of_getElem? (i := 1169) (by decide +kernel)) rfl
set_option maxRecDepth 100000 in
theorem tq_1170 : (.code ⟨"PullSawModel", "file", "()I"⟩ prog_12_method_37_code 1 (some .int) : Cond) ∈ tb_G := tb_in (List.mem_of_getElem? (i := 1170) rfl) rfl
theorem tq_1171 : (.methodLink "PullSawLaw" 71 ⟨"PullSawModel", "wish", "(II)I"⟩ : Cond) ∈ tb_G := tb_in (List.mem_of_getElem? (i := 1171) (by decide +kernel)) rfl
theorem tq_1172 : (.instanceMethod ⟨"PullSawModel", "wish", "(II)I"⟩ : Cond) ∈ tb_G := tb_in (List.mem_of_getElem? (i := 1172) (by decide +kernel)) rfl
theorem tq_1173 : (.selects "PullSawModel" ⟨"PullSawModel", "wish", "(II)I"⟩ ⟨"PullSawModel", "wish", "(II)I"⟩ : Cond) ∈ tb_G := tb_in (List.mem_of_getElem? (i := 1173) (by decide +kernel)) rfl
set_option maxRecDepth 100000 in
theorem tq_1174 : (.code ⟨"PullSawModel", "wish", "(II)I"⟩ prog_12_method_39_code 3 (some .int) : Cond) ∈ tb_G := tb_in (List.mem_of_getElem? (i := 1174) rfl) rfl
theorem tq_1175 : (.constantLong "PullSawModel" 210 (20 : Int64) : Cond) ∈ tb_G := tb_in (List.mem_of_getElem? (i := 1175) (by decide +kernel)) rfl
theorem tq_1176 : (.methodLink "PullSawModel" 212 ⟨"PullSawModel", "become", "(II)I"⟩ : Cond) ∈ tb_G := tb_in (List.mem_of_getElem? (i := 1176) (by decide +kernel)) rfl
theorem tq_1178 : (.instanceMethod ⟨"PullSawModel", "become", "(II)I"⟩ : Cond) ∈ tb_G := tb_in (List.mem_of_getElem? (i := 1178) (by decide +kernel)) rfl
set_option maxRecDepth 100000 in
theorem tq_1179 : (.code ⟨"PullSawModel", "become", "(II)I"⟩ prog_12_method_38_code 4 (some .int) : Cond) ∈ tb_G := tb_in (List.mem_of_getElem? (i := 1179) rfl) rfl
theorem tq_1180 : (.methodLink "PullSawLaw" 75 ⟨"PullSawModel", "habit", "(II)I"⟩ : Cond) ∈ tb_G := tb_in (List.mem_of_getElem? (i := 1180) (by decide +kernel)) rfl
theorem tq_1181 : (.instanceMethod ⟨"PullSawModel", "habit", "(II)I"⟩ : Cond) ∈ tb_G := tb_in (List.mem_of_getElem? (i := 1181) (by decide +kernel)) rfl
theorem tq_1182 : (.selects "PullSawModel" ⟨"PullSawModel", "habit", "(II)I"⟩ ⟨"PullSawModel", "habit", "(II)I"⟩ : Cond) ∈ tb_G := tb_in (List.mem_of_getElem? (i := 1182) (by decide +kernel)) rfl
set_option maxRecDepth 100000 in
theorem tq_1183 : (.code ⟨"PullSawModel", "habit", "(II)I"⟩ prog_12_method_40_code 3 (some .int) : Cond) ∈ tb_G := tb_in (List.mem_of_getElem? (i := 1183) rfl) rfl
theorem tq_1184 : (.constantLong "PullSawModel" 215 (9 : Int64) : Cond) ∈ tb_G := tb_in (List.mem_of_getElem? (i := 1184) (by decide +kernel)) rfl
theorem tq_1185 : (.methodLink "PullSawLaw" 79 ⟨"PullSawModel", "drift", "(I)I"⟩ : Cond) ∈ tb_G := tb_in (List.mem_of_getElem? (i := 1185) (by decide +kernel)) rfl
theorem tq_1186 : (.instanceMethod ⟨"PullSawModel", "drift", "(I)I"⟩ : Cond) ∈ tb_G := tb_in (List.mem_of_getElem? (i := 1186) (by decide +kernel)) rfl
theorem tq_1187 : (.selects "PullSawModel" ⟨"PullSawModel", "drift", "(I)I"⟩ ⟨"PullSawModel", "drift", "(I)I"⟩ : Cond) ∈ tb_G := tb_in (List.mem_of_getElem? (i := 1187) (by decide +kernel)) rfl
set_option maxRecDepth 100000 in
theorem tq_1188 : (.code ⟨"PullSawModel", "drift", "(I)I"⟩ prog_12_method_42_code 5 (some .int) : Cond) ∈ tb_G := tb_in (List.mem_of_getElem? (i := 1188) rfl) rfl
theorem tq_1189 : (.methodLink "PullSawModel" 224 ⟨"PullSawModel", "draw", "(I)I"⟩ : Cond) ∈ tb_G := tb_in (List.mem_of_getElem? (i := 1189) (by decide +kernel)) rfl
theorem tq_1191 : (.instanceMethod ⟨"PullSawModel", "draw", "(I)I"⟩ : Cond) ∈ tb_G := tb_in (List.mem_of_getElem? (i := 1191) (by decide +kernel)) rfl
set_option maxRecDepth 100000 in
theorem tq_1192 : (.code ⟨"PullSawModel", "draw", "(I)I"⟩ prog_12_method_41_code 2 (some .int) : Cond) ∈ tb_G := tb_in (List.mem_of_getElem? (i := 1192) rfl) rfl
theorem tq_1193 : (.constantLong "PullSawModel" 217 (1103515245 : Int64) : Cond) ∈ tb_G := tb_in (List.mem_of_getElem? (i := 1193) (by decide +kernel)) rfl
theorem tq_1194 : (.constantLong "PullSawModel" 219 (12345 : Int64) : Cond) ∈ tb_G := tb_in (List.mem_of_getElem? (i := 1194) (by decide +kernel)) rfl
theorem tq_1195 : (.constantLong "PullSawModel" 221 (2147483648 : Int64) : Cond) ∈ tb_G := tb_in (List.mem_of_getElem? (i := 1195) (by decide +kernel)) rfl
theorem tq_1196 : (.constant "PullSawModel" 223 (65536 : Int32) : Cond) ∈ tb_G := tb_in (List.mem_of_getElem? (i := 1196) (by decide +kernel)) rfl
theorem tq_1197 : (.methodLink "PullSawLaw" 83 ⟨"PullSawModel", "undo", "(I)I"⟩ : Cond) ∈ tb_G := tb_in (List.mem_of_getElem? (i := 1197) (by decide +kernel)) rfl
theorem tq_1198 : (.instanceMethod ⟨"PullSawModel", "undo", "(I)I"⟩ : Cond) ∈ tb_G := tb_in (List.mem_of_getElem? (i := 1198) (by decide +kernel)) rfl
theorem tq_1199 : (.selects "PullSawModel" ⟨"PullSawModel", "undo", "(I)I"⟩ ⟨"PullSawModel", "undo", "(I)I"⟩ : Cond) ∈ tb_G := tb_in (List.mem_of_getElem? (i := 1199) (by decide +kernel)) rfl
set_option maxRecDepth 100000 in
theorem tq_1200 : (.code ⟨"PullSawModel", "undo", "(I)I"⟩ prog_12_method_43_code 3 (some .int) : Cond) ∈ tb_G := tb_in (List.mem_of_getElem? (i := 1200) rfl) rfl
theorem tq_1201 : (.constantLong "PullSawModel" 227 (30 : Int64) : Cond) ∈ tb_G := tb_in (List.mem_of_getElem? (i := 1201) (by decide +kernel)) rfl
theorem tq_1202 : (.methodLink "PullSawLaw" 87 ⟨"PullSawModel", "toGo", "()I"⟩ : Cond) ∈ tb_G := tb_in (List.mem_of_getElem? (i := 1202) (by decide +kernel)) rfl
theorem tq_1203 : (.instanceMethod ⟨"PullSawModel", "toGo", "()I"⟩ : Cond) ∈ tb_G := tb_in (List.mem_of_getElem? (i := 1203) (by decide +kernel)) rfl
theorem tq_1204 : (.selects "PullSawModel" ⟨"PullSawModel", "toGo", "()I"⟩ ⟨"PullSawModel", "toGo", "()I"⟩ : Cond) ∈ tb_G := tb_in (List.mem_of_getElem? (i := 1204) (by decide +kernel)) rfl
set_option maxRecDepth 100000 in
theorem tq_1205 : (.code ⟨"PullSawModel", "toGo", "()I"⟩ prog_12_method_46_code 2 (some .int) : Cond) ∈ tb_G := tb_in (List.mem_of_getElem? (i := 1205) rfl) rfl
theorem tq_1206 : (.methodLink "PullSawModel" 233 ⟨"PullSawModel", "goOnNow", "()I"⟩ : Cond) ∈ tb_G := tb_in (List.mem_of_getElem? (i := 1206) (by decide +kernel)) rfl
theorem tq_1208 : (.instanceMethod ⟨"PullSawModel", "goOnNow", "()I"⟩ : Cond) ∈ tb_G := tb_in (List.mem_of_getElem? (i := 1208) (by decide +kernel)) rfl
set_option maxRecDepth 100000 in
theorem tq_1209 : (.code ⟨"PullSawModel", "goOnNow", "()I"⟩ prog_12_method_45_code 1 (some .int) : Cond) ∈ tb_G := tb_in (List.mem_of_getElem? (i := 1209) rfl) rfl
theorem tq_1210 : (.methodLink "PullSawModel" 230 ⟨"PullSawModel", "goOn", "(I)I"⟩ : Cond) ∈ tb_G := tb_in (List.mem_of_getElem? (i := 1210) (by decide +kernel)) rfl
theorem tq_1212 : (.instanceMethod ⟨"PullSawModel", "goOn", "(I)I"⟩ : Cond) ∈ tb_G := tb_in (List.mem_of_getElem? (i := 1212) (by decide +kernel)) rfl
set_option maxRecDepth 100000 in
theorem tq_1213 : (.code ⟨"PullSawModel", "goOn", "(I)I"⟩ prog_12_method_44_code 4 (some .int) : Cond) ∈ tb_G := tb_in (List.mem_of_getElem? (i := 1213) rfl) rfl
theorem tq_1214 : (.constant "PullSawModel" 229 (99999999 : Int32) : Cond) ∈ tb_G := tb_in (List.mem_of_getElem? (i := 1214) (by decide +kernel)) rfl
theorem tq_1215 : (.methodLink "PullSawLaw" 91 ⟨"PullSawModel", "fresh", "(II)I"⟩ : Cond) ∈ tb_G := tb_in (List.mem_of_getElem? (i := 1215) (by decide +kernel)) rfl
theorem tq_1216 : (.instanceMethod ⟨"PullSawModel", "fresh", "(II)I"⟩ : Cond) ∈ tb_G := tb_in (List.mem_of_getElem? (i := 1216) (by decide +kernel)) rfl
theorem tq_1217 : (.selects "PullSawModel" ⟨"PullSawModel", "fresh", "(II)I"⟩ ⟨"PullSawModel", "fresh", "(II)I"⟩ : Cond) ∈ tb_G := tb_in (List.mem_of_getElem? (i := 1217) (by decide +kernel)) rfl
set_option maxRecDepth 100000 in
theorem tq_1218 : (.code ⟨"PullSawModel", "fresh", "(II)I"⟩ prog_12_method_50_code 4 (some .int) : Cond) ∈ tb_G := tb_in (List.mem_of_getElem? (i := 1218) rfl) rfl
theorem tq_1219 : (.methodLink "PullSawModel" 239 ⟨"PullSawModel", "refusedTwo", "(II)I"⟩ : Cond) ∈ tb_G := tb_in (List.mem_of_getElem? (i := 1219) (by decide +kernel)) rfl
theorem tq_1221 : (.instanceMethod ⟨"PullSawModel", "refusedTwo", "(II)I"⟩ : Cond) ∈ tb_G := tb_in (List.mem_of_getElem? (i := 1221) (by decide +kernel)) rfl
set_option maxRecDepth 100000 in
theorem tq_1222 : (.code ⟨"PullSawModel", "refusedTwo", "(II)I"⟩ prog_12_method_49_code 3 (some .int) : Cond) ∈ tb_G := tb_in (List.mem_of_getElem? (i := 1222) rfl) rfl
theorem tq_1223 : (.methodLink "PullSawModel" 242 ⟨"PullSawModel", "freshOf", "(II)I"⟩ : Cond) ∈ tb_G := tb_in (List.mem_of_getElem? (i := 1223) (by decide +kernel)) rfl
theorem tq_1225 : (.instanceMethod ⟨"PullSawModel", "freshOf", "(II)I"⟩ : Cond) ∈ tb_G := tb_in (List.mem_of_getElem? (i := 1225) (by decide +kernel)) rfl
set_option maxRecDepth 100000 in
theorem tq_1226 : (.code ⟨"PullSawModel", "freshOf", "(II)I"⟩ prog_12_method_48_code 3 (some .int) : Cond) ∈ tb_G := tb_in (List.mem_of_getElem? (i := 1226) rfl) rfl
theorem tq_1227 : (.methodLink "PullSawModel" 236 ⟨"PullSawModel", "beginFresh", "(II)V"⟩ : Cond) ∈ tb_G := tb_in (List.mem_of_getElem? (i := 1227) (by decide +kernel)) rfl
theorem tq_1229 : (.instanceMethod ⟨"PullSawModel", "beginFresh", "(II)V"⟩ : Cond) ∈ tb_G := tb_in (List.mem_of_getElem? (i := 1229) (by decide +kernel)) rfl
set_option maxRecDepth 100000 in
theorem tq_1230 : (.code ⟨"PullSawModel", "beginFresh", "(II)V"⟩ prog_12_method_47_code 3 none : Cond) ∈ tb_G := tb_in (List.mem_of_getElem? (i := 1230) rfl) rfl
theorem tq_1231 : (.methodLink "PullSawLaw" 96 ⟨"PullSawModel", "wishes", "(III)I"⟩ : Cond) ∈ tb_G := tb_in (List.mem_of_getElem? (i := 1231) (by decide +kernel)) rfl
theorem tq_1232 : (.instanceMethod ⟨"PullSawModel", "wishes", "(III)I"⟩ : Cond) ∈ tb_G := tb_in (List.mem_of_getElem? (i := 1232) (by decide +kernel)) rfl
theorem tq_1233 : (.selects "PullSawModel" ⟨"PullSawModel", "wishes", "(III)I"⟩ ⟨"PullSawModel", "wishes", "(III)I"⟩ : Cond) ∈ tb_G := tb_in (List.mem_of_getElem? (i := 1233) (by decide +kernel)) rfl
set_option maxRecDepth 100000 in
theorem tq_1234 : (.code ⟨"PullSawModel", "wishes", "(III)I"⟩ prog_12_method_51_code 8 (some .int) : Cond) ∈ tb_G := tb_in (List.mem_of_getElem? (i := 1234) rfl) rfl
theorem tq_1235 : (.constantLong "PullSawModel" 245 (2 : Int64) : Cond) ∈ tb_G := tb_in (List.mem_of_getElem? (i := 1235) (by decide +kernel)) rfl
theorem tq_1236 : (.methodLink "PullSawLaw" 100 ⟨"PullSawModel", "quarrel", "(II)I"⟩ : Cond) ∈ tb_G := tb_in (List.mem_of_getElem? (i := 1236) (by decide +kernel)) rfl
theorem tq_1237 : (.instanceMethod ⟨"PullSawModel", "quarrel", "(II)I"⟩ : Cond) ∈ tb_G := tb_in (List.mem_of_getElem? (i := 1237) (by decide +kernel)) rfl
theorem tq_1238 : (.selects "PullSawModel" ⟨"PullSawModel", "quarrel", "(II)I"⟩ ⟨"PullSawModel", "quarrel", "(II)I"⟩ : Cond) ∈ tb_G := tb_in (List.mem_of_getElem? (i := 1238) (by decide +kernel)) rfl
set_option maxRecDepth 100000 in
theorem tq_1239 : (.code ⟨"PullSawModel", "quarrel", "(II)I"⟩ prog_12_method_53_code 5 (some .int) : Cond) ∈ tb_G := tb_in (List.mem_of_getElem? (i := 1239) rfl) rfl
theorem tq_1240 : (.methodLink "PullSawModel" 247 ⟨"PullSawModel", "quarrels", "(I)Z"⟩ : Cond) ∈ tb_G := tb_in (List.mem_of_getElem? (i := 1240) (by decide +kernel)) rfl
theorem tq_1242 : (.instanceMethod ⟨"PullSawModel", "quarrels", "(I)Z"⟩ : Cond) ∈ tb_G := tb_in (List.mem_of_getElem? (i := 1242) (by decide +kernel)) rfl
set_option maxRecDepth 100000 in
theorem tq_1243 : (.code ⟨"PullSawModel", "quarrels", "(I)Z"⟩ prog_12_method_52_code 2 (some .boolean) : Cond) ∈ tb_G := tb_in (List.mem_of_getElem? (i := 1243) rfl) rfl
theorem tq_1244 : (.methodLink "PullSawLaw" 104 ⟨"PullSawModel", "withWhom", "(I)I"⟩ : Cond) ∈ tb_G := tb_in (List.mem_of_getElem? (i := 1244) (by decide +kernel)) rfl
theorem tq_1245 : (.instanceMethod ⟨"PullSawModel", "withWhom", "(I)I"⟩ : Cond) ∈ tb_G := tb_in (List.mem_of_getElem? (i := 1245) (by decide +kernel)) rfl
theorem tq_1246 : (.selects "PullSawModel" ⟨"PullSawModel", "withWhom", "(I)I"⟩ ⟨"PullSawModel", "withWhom", "(I)I"⟩ : Cond) ∈ tb_G := tb_in (List.mem_of_getElem? (i := 1246) (by decide +kernel)) rfl
set_option maxRecDepth 100000 in
theorem tq_1247 : (.code ⟨"PullSawModel", "withWhom", "(I)I"⟩ prog_12_method_54_code 9 (some .int) : Cond) ∈ tb_G := tb_in (List.mem_of_getElem? (i := 1247) rfl) rfl
theorem tq_1248 : (.methodLink "PullSawLaw" 108 ⟨"PullSawModel", "changes", "(III)I"⟩ : Cond) ∈ tb_G := tb_in (List.mem_of_getElem? (i := 1248) (by decide +kernel)) rfl
theorem tq_1249 : (.instanceMethod ⟨"PullSawModel", "changes", "(III)I"⟩ : Cond) ∈ tb_G := tb_in (List.mem_of_getElem? (i := 1249) (by decide +kernel)) rfl
theorem tq_1250 : (.selects "PullSawModel" ⟨"PullSawModel", "changes", "(III)I"⟩ ⟨"PullSawModel", "changes", "(III)I"⟩ : Cond) ∈ tb_G := tb_in (List.mem_of_getElem? (i := 1250) (by decide +kernel)) rfl
set_option maxRecDepth 100000 in
theorem tq_1251 : (.code ⟨"PullSawModel", "changes", "(III)I"⟩ prog_12_method_56_code 10 (some .int) : Cond) ∈ tb_G := tb_in (List.mem_of_getElem? (i := 1251) rfl) rfl
theorem tq_1252 : (.constantLong "PullSawModel" 250 (999 : Int64) : Cond) ∈ tb_G := tb_in (List.mem_of_getElem? (i := 1252) (by decide +kernel)) rfl
theorem tq_1253 : (.methodLink "PullSawModel" 252 ⟨"PullSawModel", "lay", "(III)V"⟩ : Cond) ∈ tb_G := tb_in (List.mem_of_getElem? (i := 1253) (by decide +kernel)) rfl
theorem tq_1255 : (.instanceMethod ⟨"PullSawModel", "lay", "(III)V"⟩ : Cond) ∈ tb_G := tb_in (List.mem_of_getElem? (i := 1255) (by decide +kernel)) rfl
set_option maxRecDepth 100000 in
theorem tq_1256 : (.code ⟨"PullSawModel", "lay", "(III)V"⟩ prog_12_method_55_code 5 none : Cond) ∈ tb_G := tb_in (List.mem_of_getElem? (i := 1256) rfl) rfl
theorem tq_1257 : (.methodLink "PullSawLaw" 112 ⟨"PullSawModel", "whenWedge", "(I)I"⟩ : Cond) ∈ tb_G := tb_in (List.mem_of_getElem? (i := 1257) (by decide +kernel)) rfl
theorem tq_1258 : (.instanceMethod ⟨"PullSawModel", "whenWedge", "(I)I"⟩ : Cond) ∈ tb_G := tb_in (List.mem_of_getElem? (i := 1258) (by decide +kernel)) rfl
theorem tq_1259 : (.selects "PullSawModel" ⟨"PullSawModel", "whenWedge", "(I)I"⟩ ⟨"PullSawModel", "whenWedge", "(I)I"⟩ : Cond) ∈ tb_G := tb_in (List.mem_of_getElem? (i := 1259) (by decide +kernel)) rfl
set_option maxRecDepth 100000 in
theorem tq_1260 : (.code ⟨"PullSawModel", "whenWedge", "(I)I"⟩ prog_12_method_57_code 8 (some .int) : Cond) ∈ tb_G := tb_in (List.mem_of_getElem? (i := 1260) rfl) rfl
theorem tq_1261 : (.methodLink "PullSawLaw" 116 ⟨"PullSawModel", "whenRest", "(II)I"⟩ : Cond) ∈ tb_G := tb_in (List.mem_of_getElem? (i := 1261) (by decide +kernel)) rfl
theorem tq_1262 : (.instanceMethod ⟨"PullSawModel", "whenRest", "(II)I"⟩ : Cond) ∈ tb_G := tb_in (List.mem_of_getElem? (i := 1262) (by decide +kernel)) rfl
theorem tq_1263 : (.selects "PullSawModel" ⟨"PullSawModel", "whenRest", "(II)I"⟩ ⟨"PullSawModel", "whenRest", "(II)I"⟩ : Cond) ∈ tb_G := tb_in (List.mem_of_getElem? (i := 1263) (by decide +kernel)) rfl
set_option maxRecDepth 100000 in
theorem tq_1264 : (.code ⟨"PullSawModel", "whenRest", "(II)I"⟩ prog_12_method_60_code 8 (some .int) : Cond) ∈ tb_G := tb_in (List.mem_of_getElem? (i := 1264) rfl) rfl
theorem tq_1265 : (.constantLong "PullSawModel" 255 (10 : Int64) : Cond) ∈ tb_G := tb_in (List.mem_of_getElem? (i := 1265) (by decide +kernel)) rfl
theorem tq_1266 : (.methodLink "PullSawModel" 257 ⟨"PullSawModel", "depthBy", "(II)I"⟩ : Cond) ∈ tb_G := tb_in (List.mem_of_getElem? (i := 1266) (by decide +kernel)) rfl
theorem tq_1268 : (.instanceMethod ⟨"PullSawModel", "depthBy", "(II)I"⟩ : Cond) ∈ tb_G := tb_in (List.mem_of_getElem? (i := 1268) (by decide +kernel)) rfl
set_option maxRecDepth 100000 in
theorem tq_1269 : (.code ⟨"PullSawModel", "depthBy", "(II)I"⟩ prog_12_method_58_code 5 (some .int) : Cond) ∈ tb_G := tb_in (List.mem_of_getElem? (i := 1269) rfl) rfl
theorem tq_1270 : (.methodLink "PullSawModel" 260 ⟨"PullSawModel", "ones", "(I)I"⟩ : Cond) ∈ tb_G := tb_in (List.mem_of_getElem? (i := 1270) (by decide +kernel)) rfl
theorem tq_1271 : (.static ⟨"PullSawModel", "ones", "(I)I"⟩ : Cond) ∈ tb_G := tb_in (List.mem_of_getElem? (i := 1271) (by decide +kernel)) rfl
set_option maxRecDepth 100000 in
theorem tq_1272 : (.code ⟨"PullSawModel", "ones", "(I)I"⟩ prog_12_method_59_code 3 (some .int) : Cond) ∈ tb_G := tb_in (List.mem_of_getElem? (i := 1272) rfl) rfl
theorem tq_1273 : (.methodLink "PullSawLaw" 120 ⟨"PullSawModel", "worthFile", "()I"⟩ : Cond) ∈ tb_G := tb_in (List.mem_of_getElem? (i := 1273) (by decide +kernel)) rfl
theorem tq_1274 : (.instanceMethod ⟨"PullSawModel", "worthFile", "()I"⟩ : Cond) ∈ tb_G := tb_in (List.mem_of_getElem? (i := 1274) (by decide +kernel)) rfl
theorem tq_1275 : (.selects "PullSawModel" ⟨"PullSawModel", "worthFile", "()I"⟩ ⟨"PullSawModel", "worthFile", "()I"⟩ : Cond) ∈ tb_G := tb_in (List.mem_of_getElem? (i := 1275) (by decide +kernel)) rfl
set_option maxRecDepth 100000 in
theorem tq_1276 : (.code ⟨"PullSawModel", "worthFile", "()I"⟩ prog_12_method_61_code 3 (some .int) : Cond) ∈ tb_G := tb_in (List.mem_of_getElem? (i := 1276) rfl) rfl
theorem tq_1277 : (.methodLink "PullSawLaw" 124 ⟨"PullSawModel", "see", "(I)I"⟩ : Cond) ∈ tb_G := tb_in (List.mem_of_getElem? (i := 1277) (by decide +kernel)) rfl
theorem tq_1278 : (.instanceMethod ⟨"PullSawModel", "see", "(I)I"⟩ : Cond) ∈ tb_G := tb_in (List.mem_of_getElem? (i := 1278) (by decide +kernel)) rfl
theorem tq_1279 : (.selects "PullSawModel" ⟨"PullSawModel", "see", "(I)I"⟩ ⟨"PullSawModel", "see", "(I)I"⟩ : Cond) ∈ tb_G := tb_in (List.mem_of_getElem? (i := 1279) (by decide +kernel)) rfl
set_option maxRecDepth 100000 in
theorem tq_1280 : (.code ⟨"PullSawModel", "see", "(I)I"⟩ prog_12_method_62_code 2 (some .int) : Cond) ∈ tb_G := tb_in (List.mem_of_getElem? (i := 1280) rfl) rfl
theorem tq_1281 : (.methodLink "PullSawLaw" 128 ⟨"PullSawModel", "habits", "(II)I"⟩ : Cond) ∈ tb_G := tb_in (List.mem_of_getElem? (i := 1281) (by decide +kernel)) rfl
theorem tq_1282 : (.instanceMethod ⟨"PullSawModel", "habits", "(II)I"⟩ : Cond) ∈ tb_G := tb_in (List.mem_of_getElem? (i := 1282) (by decide +kernel)) rfl
theorem tq_1283 : (.selects "PullSawModel" ⟨"PullSawModel", "habits", "(II)I"⟩ ⟨"PullSawModel", "habits", "(II)I"⟩ : Cond) ∈ tb_G := tb_in (List.mem_of_getElem? (i := 1283) (by decide +kernel)) rfl
set_option maxRecDepth 100000 in
theorem tq_1284 : (.code ⟨"PullSawModel", "habits", "(II)I"⟩ prog_12_method_64_code 5 (some .int) : Cond) ∈ tb_G := tb_in (List.mem_of_getElem? (i := 1284) rfl) rfl
theorem tq_1285 : (.methodLink "PullSawModel" 263 ⟨"PullSawModel", "isAsSeen", "()Z"⟩ : Cond) ∈ tb_G := tb_in (List.mem_of_getElem? (i := 1285) (by decide +kernel)) rfl
theorem tq_1287 : (.instanceMethod ⟨"PullSawModel", "isAsSeen", "()Z"⟩ : Cond) ∈ tb_G := tb_in (List.mem_of_getElem? (i := 1287) (by decide +kernel)) rfl
set_option maxRecDepth 100000 in
theorem tq_1288 : (.code ⟨"PullSawModel", "isAsSeen", "()Z"⟩ prog_12_method_63_code 3 (some .boolean) : Cond) ∈ tb_G := tb_in (List.mem_of_getElem? (i := 1288) rfl) rfl
theorem tq_1289 : (.methodLink "PullSawLaw" 132 ⟨"PullSawModel", "end", "(I)I"⟩ : Cond) ∈ tb_G := tb_in (List.mem_of_getElem? (i := 1289) (by decide +kernel)) rfl
theorem tq_1290 : (.instanceMethod ⟨"PullSawModel", "end", "(I)I"⟩ : Cond) ∈ tb_G := tb_in (List.mem_of_getElem? (i := 1290) (by decide +kernel)) rfl
theorem tq_1291 : (.selects "PullSawModel" ⟨"PullSawModel", "end", "(I)I"⟩ ⟨"PullSawModel", "end", "(I)I"⟩ : Cond) ∈ tb_G := tb_in (List.mem_of_getElem? (i := 1291) (by decide +kernel)) rfl
set_option maxRecDepth 100000 in
theorem tq_1292 : (.code ⟨"PullSawModel", "end", "(I)I"⟩ prog_12_method_65_code 5 (some .int) : Cond) ∈ tb_G := tb_in (List.mem_of_getElem? (i := 1292) rfl) rfl
theorem tq_1293 : (.methodLink "PullSawLaw" 136 ⟨"PullSawModel", "write", "(I)I"⟩ : Cond) ∈ tb_G := tb_in (List.mem_of_getElem? (i := 1293) (by decide +kernel)) rfl
theorem tq_1294 : (.instanceMethod ⟨"PullSawModel", "write", "(I)I"⟩ : Cond) ∈ tb_G := tb_in (List.mem_of_getElem? (i := 1294) (by decide +kernel)) rfl
theorem tq_1295 : (.selects "PullSawModel" ⟨"PullSawModel", "write", "(I)I"⟩ ⟨"PullSawModel", "write", "(I)I"⟩ : Cond) ∈ tb_G := tb_in (List.mem_of_getElem? (i := 1295) (by decide +kernel)) rfl
set_option maxRecDepth 100000 in
theorem tq_1296 : (.code ⟨"PullSawModel", "write", "(I)I"⟩ prog_12_method_66_code 2 (some .int) : Cond) ∈ tb_G := tb_in (List.mem_of_getElem? (i := 1296) rfl) rfl
theorem tq_1297 : (.methodLink "PullSawLaw" 140 ⟨"PullSawModel", "judge", "()I"⟩ : Cond) ∈ tb_G := tb_in (List.mem_of_getElem? (i := 1297) (by decide +kernel)) rfl
theorem tq_1298 : (.instanceMethod ⟨"PullSawModel", "judge", "()I"⟩ : Cond) ∈ tb_G := tb_in (List.mem_of_getElem? (i := 1298) (by decide +kernel)) rfl
theorem tq_1299 : (.selects "PullSawModel" ⟨"PullSawModel", "judge", "()I"⟩ ⟨"PullSawModel", "judge", "()I"⟩ : Cond) ∈ tb_G := tb_in (List.mem_of_getElem? (i := 1299) (by decide +kernel)) rfl
set_option maxRecDepth 100000 in
theorem tq_1300 : (.code ⟨"PullSawModel", "judge", "()I"⟩ prog_12_method_67_code 2 (some .int) : Cond) ∈ tb_G := tb_in (List.mem_of_getElem? (i := 1300) rfl) rfl
theorem tq_1301 : (.methodLink "PullSawLaw" 144 ⟨"PullSawModel", "tear", "()I"⟩ : Cond) ∈ tb_G := tb_in (List.mem_of_getElem? (i := 1301) (by decide +kernel)) rfl
theorem tq_1302 : (.instanceMethod ⟨"PullSawModel", "tear", "()I"⟩ : Cond) ∈ tb_G := tb_in (List.mem_of_getElem? (i := 1302) (by decide +kernel)) rfl
theorem tq_1303 : (.selects "PullSawModel" ⟨"PullSawModel", "tear", "()I"⟩ ⟨"PullSawModel", "tear", "()I"⟩ : Cond) ∈ tb_G := tb_in (List.mem_of_getElem? (i := 1303) (by decide +kernel)) rfl
set_option maxRecDepth 100000 in
theorem tq_1304 : (.code ⟨"PullSawModel", "tear", "()I"⟩ prog_12_method_68_code 2 (some .int) : Cond) ∈ tb_G := tb_in (List.mem_of_getElem? (i := 1304) rfl) rfl
theorem tq_1305 : (.methodLink "PullSawLaw" 148 ⟨"PullSawModel", "seed", "(I)I"⟩ : Cond) ∈ tb_G := tb_in (List.mem_of_getElem? (i := 1305) (by decide +kernel)) rfl
theorem tq_1306 : (.instanceMethod ⟨"PullSawModel", "seed", "(I)I"⟩ : Cond) ∈ tb_G := tb_in (List.mem_of_getElem? (i := 1306) (by decide +kernel)) rfl
theorem tq_1307 : (.selects "PullSawModel" ⟨"PullSawModel", "seed", "(I)I"⟩ ⟨"PullSawModel", "seed", "(I)I"⟩ : Cond) ∈ tb_G := tb_in (List.mem_of_getElem? (i := 1307) (by decide +kernel)) rfl
set_option maxRecDepth 100000 in
theorem tq_1308 : (.code ⟨"PullSawModel", "seed", "(I)I"⟩ prog_12_method_69_code 3 (some .int) : Cond) ∈ tb_G := tb_in (List.mem_of_getElem? (i := 1308) rfl) rfl
theorem tq_1309 : (.methodLink "PullSawLaw" 152 ⟨"PullSawModel", "keep", "(I)I"⟩ : Cond) ∈ tb_G := tb_in (List.mem_of_getElem? (i := 1309) (by decide +kernel)) rfl
theorem tq_1310 : (.instanceMethod ⟨"PullSawModel", "keep", "(I)I"⟩ : Cond) ∈ tb_G := tb_in (List.mem_of_getElem? (i := 1310) (by decide +kernel)) rfl
theorem tq_1311 : (.selects "PullSawModel" ⟨"PullSawModel", "keep", "(I)I"⟩ ⟨"PullSawModel", "keep", "(I)I"⟩ : Cond) ∈ tb_G := tb_in (List.mem_of_getElem? (i := 1311) (by decide +kernel)) rfl
set_option maxRecDepth 100000 in
theorem tq_1312 : (.code ⟨"PullSawModel", "keep", "(I)I"⟩ prog_12_method_70_code 2 (some .int) : Cond) ∈ tb_G := tb_in (List.mem_of_getElem? (i := 1312) rfl) rfl
theorem tq_1313 : (.methodLink "PullSawLaw" 156 ⟨"PullSawModel", "goBack", "(I)I"⟩ : Cond) ∈ tb_G := tb_in (List.mem_of_getElem? (i := 1313) (by decide +kernel)) rfl
theorem tq_1314 : (.instanceMethod ⟨"PullSawModel", "goBack", "(I)I"⟩ : Cond) ∈ tb_G := tb_in (List.mem_of_getElem? (i := 1314) (by decide +kernel)) rfl
theorem tq_1315 : (.selects "PullSawModel" ⟨"PullSawModel", "goBack", "(I)I"⟩ ⟨"PullSawModel", "goBack", "(I)I"⟩ : Cond) ∈ tb_G := tb_in (List.mem_of_getElem? (i := 1315) (by decide +kernel)) rfl
set_option maxRecDepth 100000 in
theorem tq_1316 : (.code ⟨"PullSawModel", "goBack", "(I)I"⟩ prog_12_method_71_code 2 (some .int) : Cond) ∈ tb_G := tb_in (List.mem_of_getElem? (i := 1316) rfl) rfl
