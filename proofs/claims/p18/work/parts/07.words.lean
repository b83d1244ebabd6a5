theorem aw_s {w : Cond} (i : Nat) (h : (k2_sels lw_privs)[i]? = some w) (g : goodWord w = true) : w ∈ aw_all := List.mem_filter.mpr ⟨List.mem_append_left _ (List.mem_of_getElem? h), g⟩
theorem aw_1 {w : Cond} (i : Nat) (h : tables_1_1[i]? = some w) (g : goodWord w = true) : w ∈ aw_all := List.mem_filter.mpr ⟨List.mem_append_right _ (List.mem_append_left _ (List.mem_of_getElem? h)), g⟩
theorem aw_2 {w : Cond} (i : Nat) (h : tables_1_2[i]? = some w) (g : goodWord w = true) : w ∈ aw_all := List.mem_filter.mpr ⟨List.mem_append_right _ (List.mem_append_right _ (List.mem_append_left _ (List.mem_of_getElem? h))), g⟩
theorem aw_3 {w : Cond} (i : Nat) (h : tables_1_3[i]? = some w) (g : goodWord w = true) : w ∈ aw_all := List.mem_filter.mpr ⟨List.mem_append_right _ (List.mem_append_right _ (List.mem_append_right _ (List.mem_append_left _ (List.mem_of_getElem? h)))), g⟩
theorem aw_4 {w : Cond} (i : Nat) (h : tables_1_4[i]? = some w) (g : goodWord w = true) : w ∈ aw_all := List.mem_filter.mpr ⟨List.mem_append_right _ (List.mem_append_right _ (List.mem_append_right _ (List.mem_append_right _ (List.mem_append_left _ (List.mem_of_getElem? h))))), g⟩
theorem aw_5 {w : Cond} (i : Nat) (h : tables_1_5[i]? = some w) (g : goodWord w = true) : w ∈ aw_all := List.mem_filter.mpr ⟨List.mem_append_right _ (List.mem_append_right _ (List.mem_append_right _ (List.mem_append_right _ (List.mem_append_right _ (List.mem_append_left _ (List.mem_of_getElem? h)))))), g⟩
theorem aw_6 {w : Cond} (i : Nat) (h : tables_1_6[i]? = some w) (g : goodWord w = true) : w ∈ aw_all := List.mem_filter.mpr ⟨List.mem_append_right _ (List.mem_append_right _ (List.mem_append_right _ (List.mem_append_right _ (List.mem_append_right _ (List.mem_append_right _ (List.mem_append_left _ (List.mem_of_getElem? h))))))), g⟩
theorem aw_7 {w : Cond} (i : Nat) (h : tables_1_7[i]? = some w) (g : goodWord w = true) : w ∈ aw_all := List.mem_filter.mpr ⟨List.mem_append_right _ (List.mem_append_right _ (List.mem_append_right _ (List.mem_append_right _ (List.mem_append_right _ (List.mem_append_right _ (List.mem_append_right _ (List.mem_append_left _ (List.mem_of_getElem? h)))))))), g⟩
theorem aw_8 {w : Cond} (i : Nat) (h : tables_1_8[i]? = some w) (g : goodWord w = true) : w ∈ aw_all := List.mem_filter.mpr ⟨List.mem_append_right _ (List.mem_append_right _ (List.mem_append_right _ (List.mem_append_right _ (List.mem_append_right _ (List.mem_append_right _ (List.mem_append_right _ (List.mem_append_right _ (List.mem_append_left _ (List.mem_of_getElem? h))))))))), g⟩
theorem aw_9 {w : Cond} (i : Nat) (h : tables_1_9[i]? = some w) (g : goodWord w = true) : w ∈ aw_all := List.mem_filter.mpr ⟨List.mem_append_right _ (List.mem_append_right _ (List.mem_append_right _ (List.mem_append_right _ (List.mem_append_right _ (List.mem_append_right _ (List.mem_append_right _ (List.mem_append_right _ (List.mem_append_right _ (List.mem_of_getElem? h))))))))), g⟩
theorem lk_0 : Cond.selects "BellHeirs" ⟨"BellHeirs", "refuse", "(I)I"⟩ ⟨"BellHeirs", "refuse", "(I)I"⟩ ∈ aw_all := aw_s 0 rfl rfl
theorem lk_1 : Cond.selects "BellHeirs" ⟨"BellHeirs", "accept", "(I)I"⟩ ⟨"BellHeirs", "accept", "(I)I"⟩ ∈ aw_all := aw_s 1 rfl rfl
theorem lk_2 : Cond.selects "BellHeirs$Asker" ⟨"BellHeirs$Asker", "setWords", "(LBellHeirs$Suburb;III)V"⟩ ⟨"BellHeirs$Asker", "setWords", "(LBellHeirs$Suburb;III)V"⟩ ∈ aw_all := aw_s 2 rfl rfl
theorem lk_3 : Cond.selects "BellHeirs$Asker" ⟨"BellHeirs$Asker", "lastTold", "(LBellHeirs$Text;I)I"⟩ ⟨"BellHeirs$Asker", "lastTold", "(LBellHeirs$Text;I)I"⟩ ∈ aw_all := aw_s 3 rfl rfl
theorem lk_4 : Cond.selects "BellHeirs$Asker" ⟨"BellHeirs$Asker", "someHolds", "(LBellHeirs$Text;I)Z"⟩ ⟨"BellHeirs$Asker", "someHolds", "(LBellHeirs$Text;I)Z"⟩ ∈ aw_all := aw_s 4 rfl rfl
theorem lk_5 : Cond.selects "BellHeirs" ⟨"BellHeirs", "canSell", "(III)Z"⟩ ⟨"BellHeirs", "canSell", "(III)Z"⟩ ∈ aw_all := aw_s 5 rfl rfl
theorem lk_6 : Cond.selects "BellHeirs" ⟨"BellHeirs", nmLet, "(I)Z"⟩ ⟨"BellHeirs", nmLet, "(I)Z"⟩ ∈ aw_all := aw_s 6 rfl rfl
theorem lk_7 : Cond.selects "BellHeirs$Reader" ⟨"BellHeirs$Reader", "readLawClause", "()Z"⟩ ⟨"BellHeirs$Reader", "readLawClause", "()Z"⟩ ∈ aw_all := aw_s 7 rfl rfl
theorem lk_8 : Cond.selects "BellHeirs$Reader" ⟨"BellHeirs$Reader", "lawKind", "()I"⟩ ⟨"BellHeirs$Reader", "lawKind", "()I"⟩ ∈ aw_all := aw_s 8 rfl rfl
theorem lk_9 : Cond.selects "BellHeirs$Reader" ⟨"BellHeirs$Reader", "readSum", "(I)Z"⟩ ⟨"BellHeirs$Reader", "readSum", "(I)Z"⟩ ∈ aw_all := aw_s 9 rfl rfl
theorem lk_10 : Cond.selects "BellHeirs$Reader" ⟨"BellHeirs$Reader", "readTerm", "(I)Z"⟩ ⟨"BellHeirs$Reader", "readTerm", "(I)Z"⟩ ∈ aw_all := aw_s 10 rfl rfl
theorem lk_11 : Cond.selects "BellHeirs$Reader" ⟨"BellHeirs$Reader", "readFactor", "(I)Z"⟩ ⟨"BellHeirs$Reader", "readFactor", "(I)Z"⟩ ∈ aw_all := aw_s 11 rfl rfl
theorem lk_12 : Cond.selects "BellHeirs$Reader" ⟨"BellHeirs$Reader", "takeSign", "(C)Z"⟩ ⟨"BellHeirs$Reader", "takeSign", "(C)Z"⟩ ∈ aw_all := aw_s 12 rfl rfl
theorem lk_13 : Cond.selects "BellHeirs$Reader" ⟨"BellHeirs$Reader", "lawWord", "()I"⟩ ⟨"BellHeirs$Reader", "lawWord", "()I"⟩ ∈ aw_all := aw_s 13 rfl rfl
theorem lk_14 : Cond.selects "BellHeirs$Reader" ⟨"BellHeirs$Reader", "orderWord", "()I"⟩ ⟨"BellHeirs$Reader", "orderWord", "()I"⟩ ∈ aw_all := aw_s 14 rfl rfl
theorem lk_15 : Cond.selects "BellHeirs$Reader" ⟨"BellHeirs$Reader", "addWord", "(I)Z"⟩ ⟨"BellHeirs$Reader", "addWord", "(I)Z"⟩ ∈ aw_all := aw_s 15 rfl rfl
theorem lk_16 : Cond.selects "BellHeirs$Reader" ⟨"BellHeirs$Reader", "readWhose", "(I)Z"⟩ ⟨"BellHeirs$Reader", "readWhose", "(I)Z"⟩ ∈ aw_all := aw_s 16 rfl rfl
theorem lk_17 : Cond.selects "BellHeirs$Reader" ⟨"BellHeirs$Reader", "isTermSign", "()Z"⟩ ⟨"BellHeirs$Reader", "isTermSign", "()Z"⟩ ∈ aw_all := aw_s 17 rfl rfl
theorem lk_18 : Cond.selects "BellHeirs$Reader" ⟨"BellHeirs$Reader", "readIf", "()Z"⟩ ⟨"BellHeirs$Reader", "readIf", "()Z"⟩ ∈ aw_all := aw_s 18 rfl rfl
theorem lk_19 : Cond.selects "BellHeirs$Reader" ⟨"BellHeirs$Reader", "takeWord", "(Ljava/lang/String;)Z"⟩ ⟨"BellHeirs$Reader", "takeWord", "(Ljava/lang/String;)Z"⟩ ∈ aw_all := aw_s 19 rfl rfl
theorem lk_20 : Cond.selects "BellHeirs$Reader" ⟨"BellHeirs$Reader", "readTest", "(I)Z"⟩ ⟨"BellHeirs$Reader", "readTest", "(I)Z"⟩ ∈ aw_all := aw_s 20 rfl rfl
theorem lk_21 : Cond.selects "BellHeirs$Reader" ⟨"BellHeirs$Reader", "readBoth", "(I)Z"⟩ ⟨"BellHeirs$Reader", "readBoth", "(I)Z"⟩ ∈ aw_all := aw_s 21 rfl rfl
theorem lk_22 : Cond.selects "BellHeirs$Reader" ⟨"BellHeirs$Reader", "readPlain", "(I)Z"⟩ ⟨"BellHeirs$Reader", "readPlain", "(I)Z"⟩ ∈ aw_all := aw_s 22 rfl rfl
theorem lk_23 : Cond.selects "BellHeirs$Reader" ⟨"BellHeirs$Reader", "readBracketedTest", "(I)Z"⟩ ⟨"BellHeirs$Reader", "readBracketedTest", "(I)Z"⟩ ∈ aw_all := aw_s 23 rfl rfl
theorem lk_24 : Cond.selects "BellHeirs$Reader" ⟨"BellHeirs$Reader", "readComparison", "(I)Z"⟩ ⟨"BellHeirs$Reader", "readComparison", "(I)Z"⟩ ∈ aw_all := aw_s 24 rfl rfl
theorem lk_25 : Cond.selects "BellHeirs$Reader" ⟨"BellHeirs$Reader", "readOrderClause", "()Z"⟩ ⟨"BellHeirs$Reader", "readOrderClause", "()Z"⟩ ∈ aw_all := aw_s 25 rfl rfl
theorem lk_26 : Cond.selects "BellHeirs$Reader" ⟨"BellHeirs$Reader", "readNextSum", "(Ljava/lang/String;I)Z"⟩ ⟨"BellHeirs$Reader", "readNextSum", "(Ljava/lang/String;I)Z"⟩ ∈ aw_all := aw_s 26 rfl rfl
theorem lk_27 : Cond.selects "BellHeirs$Reader" ⟨"BellHeirs$Reader", "readTimes", "()Z"⟩ ⟨"BellHeirs$Reader", "readTimes", "()Z"⟩ ∈ aw_all := aw_s 27 rfl rfl
theorem lk_28 : Cond.selects "BellHeirs$Deeds" ⟨"BellHeirs$Deeds", "setWords", "(LBellHeirs$Suburb;)V"⟩ ⟨"BellHeirs$Deeds", "setWords", "(LBellHeirs$Suburb;)V"⟩ ∈ aw_all := aw_s 28 rfl rfl
theorem lk_29 : Cond.selects "BellHeirs" ⟨"BellHeirs", "tell", "(I)I"⟩ ⟨"BellHeirs", "tell", "(I)I"⟩ ∈ aw_all := aw_s 29 rfl rfl
theorem lk_30 : Cond.selects "BellHeirs$Plans" ⟨"BellHeirs$Plans", "walk", "(LBellHeirs$Suburb;IIIII)V"⟩ ⟨"BellHeirs$Plans", "walk", "(LBellHeirs$Suburb;IIIII)V"⟩ ∈ aw_all := aw_s 30 rfl rfl
theorem lk_31 : Cond.selects "BellHeirs$Plans" ⟨"BellHeirs$Plans", "mostIfGives", "(LBellHeirs$Suburb;III)I"⟩ ⟨"BellHeirs$Plans", "mostIfGives", "(LBellHeirs$Suburb;III)I"⟩ ∈ aw_all := aw_s 31 rfl rfl
theorem lk_32 : Cond.selects "BellHeirs$Plans" ⟨"BellHeirs$Plans", "firstBestGiver", "(LBellHeirs$Suburb;II)I"⟩ ⟨"BellHeirs$Plans", "firstBestGiver", "(LBellHeirs$Suburb;II)I"⟩ ∈ aw_all := aw_s 32 rfl rfl
theorem lk_33 : Cond.selects "BellHeirs$Suburb" ⟨"BellHeirs$Suburb", "couldWalk", "(I)Z"⟩ ⟨"BellHeirs$Suburb", "couldWalk", "(I)Z"⟩ ∈ aw_all := aw_s 33 rfl rfl
theorem lk_34 : Cond.selects "BellHeirs$Suburb" ⟨"BellHeirs$Suburb", "hasRingsForClues", "(I)Z"⟩ ⟨"BellHeirs$Suburb", "hasRingsForClues", "(I)Z"⟩ ∈ aw_all := aw_s 34 rfl rfl
theorem lk_35 : Cond.selects "BellHeirs$Shares" ⟨"BellHeirs$Shares", "gain", "(II)I"⟩ ⟨"BellHeirs$Shares", "gain", "(II)I"⟩ ∈ aw_all := aw_s 35 rfl rfl
theorem lk_36 : Cond.selects "BellHeirs$Shares" ⟨"BellHeirs$Shares", "firstBestUse", "(II)I"⟩ ⟨"BellHeirs$Shares", "firstBestUse", "(II)I"⟩ ∈ aw_all := aw_s 36 rfl rfl
theorem lk_37 : Cond.selects "BellHeirs" ⟨"BellHeirs", "setSales", "(I)V"⟩ ⟨"BellHeirs", "setSales", "(I)V"⟩ ∈ aw_all := aw_s 37 rfl rfl
theorem lk_38 : Cond.selects "BellHeirs$Plans" ⟨"BellHeirs$Plans", "toGoBy", "(II)I"⟩ ⟨"BellHeirs$Plans", "toGoBy", "(II)I"⟩ ∈ aw_all := aw_s 38 rfl rfl
theorem lk_39 : Cond.selects "BellHeirs$Plans" ⟨"BellHeirs$Plans", "firstBestBuyer", "(II)I"⟩ ⟨"BellHeirs$Plans", "firstBestBuyer", "(II)I"⟩ ∈ aw_all := aw_s 39 rfl rfl
theorem lk_40 : Cond.selects "BellHeirs$Deeds" ⟨"BellHeirs$Deeds", "draw", "(I)I"⟩ ⟨"BellHeirs$Deeds", "draw", "(I)I"⟩ ∈ aw_all := aw_s 40 rfl rfl
theorem lk_41 : Cond.selects "BellHeirsModel" ⟨"BellHeirsModel", "tell", "(I)I"⟩ ⟨"BellHeirsModel", "tell", "(I)I"⟩ ∈ aw_all := aw_s 41 rfl rfl
theorem lk_42 : Cond.selects "BellHeirsModel" ⟨"BellHeirsModel", "putBack", "(I)V"⟩ ⟨"BellHeirsModel", "putBack", "(I)V"⟩ ∈ aw_all := aw_s 42 rfl rfl
theorem lk_43 : Cond.selects "BellHeirsModel" ⟨"BellHeirsModel", "settled", "(I)I"⟩ ⟨"BellHeirsModel", "settled", "(I)I"⟩ ∈ aw_all := aw_s 43 rfl rfl
theorem lk_44 : Cond.selects "BellHeirsModel" ⟨"BellHeirsModel", "isHouse", "(I)Z"⟩ ⟨"BellHeirsModel", "isHouse", "(I)Z"⟩ ∈ aw_all := aw_s 44 rfl rfl
theorem lk_45 : Cond.selects "BellHeirsModel" ⟨"BellHeirsModel", "rightsTo", "(I)I"⟩ ⟨"BellHeirsModel", "rightsTo", "(I)I"⟩ ∈ aw_all := aw_s 45 rfl rfl
theorem lk_46 : Cond.selects "BellHeirsModel" ⟨"BellHeirsModel", "rights", "(II)I"⟩ ⟨"BellHeirsModel", "rights", "(II)I"⟩ ∈ aw_all := aw_s 46 rfl rfl
theorem lk_47 : Cond.selects "BellHeirsModel" ⟨"BellHeirsModel", "worthOf", "(II)I"⟩ ⟨"BellHeirsModel", "worthOf", "(II)I"⟩ ∈ aw_all := aw_s 47 rfl rfl
theorem lk_48 : Cond.selects "BellHeirsModel" ⟨"BellHeirsModel", "tells", "(IIIIIJ)J"⟩ ⟨"BellHeirsModel", "tells", "(IIIIIJ)J"⟩ ∈ aw_all := aw_s 48 rfl rfl
theorem lk_49 : Cond.selects "BellHeirsModel" ⟨"BellHeirsModel", "leftOf", "(II)I"⟩ ⟨"BellHeirsModel", "leftOf", "(II)I"⟩ ∈ aw_all := aw_s 49 rfl rfl
theorem lk_50 : Cond.selects "BellHeirsModel" ⟨"BellHeirsModel", "isSo", "(I)Z"⟩ ⟨"BellHeirsModel", "isSo", "(I)Z"⟩ ∈ aw_all := aw_s 50 rfl rfl
theorem lk_51 : Cond.selects "BellHeirsModel" ⟨"BellHeirsModel", "reckonAll", "(II)V"⟩ ⟨"BellHeirsModel", "reckonAll", "(II)V"⟩ ∈ aw_all := aw_s 51 rfl rfl
theorem lk_52 : Cond.selects "BellHeirsModel" ⟨"BellHeirsModel", "isPerson", "(I)Z"⟩ ⟨"BellHeirsModel", "isPerson", "(I)Z"⟩ ∈ aw_all := aw_s 52 rfl rfl
theorem lk_53 : Cond.selects "BellHeirsModel" ⟨"BellHeirsModel", "leftOfAll", "(I)I"⟩ ⟨"BellHeirsModel", "leftOfAll", "(I)I"⟩ ∈ aw_all := aw_s 53 rfl rfl
theorem lk_54 : Cond.selects "BellHeirsModel" ⟨"BellHeirsModel", "reckon", "(IJJ)J"⟩ ⟨"BellHeirsModel", "reckon", "(IJJ)J"⟩ ∈ aw_all := aw_s 54 rfl rfl
theorem lk_55 : Cond.selects "BellHeirsModel" ⟨"BellHeirsModel", "come", "(III)I"⟩ ⟨"BellHeirsModel", "come", "(III)I"⟩ ∈ aw_all := aw_s 55 rfl rfl
theorem lk_56 : Cond.selects "BellHeirsModel" ⟨"BellHeirsModel", "lives", "(I)Z"⟩ ⟨"BellHeirsModel", "lives", "(I)Z"⟩ ∈ aw_all := aw_s 56 rfl rfl
theorem lk_57 : Cond.selects "BellHeirsModel" ⟨"BellHeirsModel", "change", "(II)I"⟩ ⟨"BellHeirsModel", "change", "(II)I"⟩ ∈ aw_all := aw_s 57 rfl rfl
theorem lk_58 : Cond.selects "BellHeirsModel" ⟨"BellHeirsModel", "isOpen", "(II)Z"⟩ ⟨"BellHeirsModel", "isOpen", "(II)Z"⟩ ∈ aw_all := aw_s 58 rfl rfl
theorem lk_59 : Cond.selects "BellHeirsModel" ⟨"BellHeirsModel", "tellsOpening", "()Z"⟩ ⟨"BellHeirsModel", "tellsOpening", "()Z"⟩ ∈ aw_all := aw_s 59 rfl rfl
theorem lk_60 : Cond.selects "BellHeirsModel" ⟨"BellHeirsModel", "yearNow", "()I"⟩ ⟨"BellHeirsModel", "yearNow", "()I"⟩ ∈ aw_all := aw_s 60 rfl rfl
theorem lk_61 : Cond.selects "BellHeirsModel" ⟨"BellHeirsModel", "tiresOf", "(II)I"⟩ ⟨"BellHeirsModel", "tiresOf", "(II)I"⟩ ∈ aw_all := aw_s 61 rfl rfl
theorem lk_62 : Cond.selects "BellHeirsModel" ⟨"BellHeirsModel", "four", "(I)V"⟩ ⟨"BellHeirsModel", "four", "(I)V"⟩ ∈ aw_all := aw_s 62 rfl rfl
theorem lk_63 : Cond.selects "BellHeirsModel" ⟨"BellHeirsModel", "beginText", "(Z)V"⟩ ⟨"BellHeirsModel", "beginText", "(Z)V"⟩ ∈ aw_all := aw_s 63 rfl rfl
theorem lk_64 : Cond.selects "BellHeirsModel" ⟨"BellHeirsModel", "begin", "()V"⟩ ⟨"BellHeirsModel", "begin", "()V"⟩ ∈ aw_all := aw_s 64 rfl rfl
theorem lk_65 : Cond.selects "BellHeirsModel" ⟨"BellHeirsModel", "next", "()V"⟩ ⟨"BellHeirsModel", "next", "()V"⟩ ∈ aw_all := aw_s 65 rfl rfl
theorem lk_66 : Cond.selects "BellHeirsModel" ⟨"BellHeirsModel", "readLaw", "()V"⟩ ⟨"BellHeirsModel", "readLaw", "()V"⟩ ∈ aw_all := aw_s 66 rfl rfl
theorem lk_67 : Cond.selects "BellHeirsModel" ⟨"BellHeirsModel", "isWord", "(J)Z"⟩ ⟨"BellHeirsModel", "isWord", "(J)Z"⟩ ∈ aw_all := aw_s 67 rfl rfl
theorem lk_68 : Cond.selects "BellHeirsModel" ⟨"BellHeirsModel", "must", "(Z)V"⟩ ⟨"BellHeirsModel", "must", "(Z)V"⟩ ∈ aw_all := aw_s 68 rfl rfl
theorem lk_69 : Cond.selects "BellHeirsModel" ⟨"BellHeirsModel", "readExpression", "(Z)V"⟩ ⟨"BellHeirsModel", "readExpression", "(Z)V"⟩ ∈ aw_all := aw_s 69 rfl rfl
theorem lk_70 : Cond.selects "BellHeirsModel" ⟨"BellHeirsModel", "readPlain", "()I"⟩ ⟨"BellHeirsModel", "readPlain", "()I"⟩ ∈ aw_all := aw_s 70 rfl rfl
theorem lk_71 : Cond.selects "BellHeirsModel" ⟨"BellHeirsModel", "push", "(II)V"⟩ ⟨"BellHeirsModel", "push", "(II)V"⟩ ∈ aw_all := aw_s 71 rfl rfl
theorem lk_72 : Cond.selects "BellHeirsModel" ⟨"BellHeirsModel", "isSign", "(I)Z"⟩ ⟨"BellHeirsModel", "isSign", "(I)Z"⟩ ∈ aw_all := aw_s 72 rfl rfl
theorem lk_73 : Cond.selects "BellHeirsModel" ⟨"BellHeirsModel", "openBracket", "(I)V"⟩ ⟨"BellHeirsModel", "openBracket", "(I)V"⟩ ∈ aw_all := aw_s 73 rfl rfl
theorem lk_74 : Cond.selects "BellHeirsModel" ⟨"BellHeirsModel", "readPart", "()I"⟩ ⟨"BellHeirsModel", "readPart", "()I"⟩ ∈ aw_all := aw_s 74 rfl rfl
theorem lk_75 : Cond.selects "BellHeirsModel" ⟨"BellHeirsModel", "orderPartAt", "()I"⟩ ⟨"BellHeirsModel", "orderPartAt", "()I"⟩ ∈ aw_all := aw_s 75 rfl rfl
theorem lk_76 : Cond.selects "BellHeirsModel" ⟨"BellHeirsModel", "partAt", "()I"⟩ ⟨"BellHeirsModel", "partAt", "()I"⟩ ∈ aw_all := aw_s 76 rfl rfl
theorem lk_77 : Cond.selects "BellHeirsModel" ⟨"BellHeirsModel", "leaf", "(ZII)V"⟩ ⟨"BellHeirsModel", "leaf", "(ZII)V"⟩ ∈ aw_all := aw_s 77 rfl rfl
theorem lk_78 : Cond.selects "BellHeirsModel" ⟨"BellHeirsModel", "emit", "(II)V"⟩ ⟨"BellHeirsModel", "emit", "(II)V"⟩ ∈ aw_all := aw_s 78 rfl rfl
theorem lk_79 : Cond.selects "BellHeirsModel" ⟨"BellHeirsModel", "number", "(JJ)I"⟩ ⟨"BellHeirsModel", "number", "(JJ)I"⟩ ∈ aw_all := aw_s 79 rfl rfl
theorem lk_80 : Cond.selects "BellHeirsModel" ⟨"BellHeirsModel", "behindSum", "(Z)I"⟩ ⟨"BellHeirsModel", "behindSum", "(Z)I"⟩ ∈ aw_all := aw_s 80 rfl rfl
theorem lk_81 : Cond.selects "BellHeirsModel" ⟨"BellHeirsModel", "settle", "(I)V"⟩ ⟨"BellHeirsModel", "settle", "(I)V"⟩ ∈ aw_all := aw_s 81 rfl rfl
theorem lk_82 : Cond.selects "BellHeirsModel" ⟨"BellHeirsModel", "inner", "()I"⟩ ⟨"BellHeirsModel", "inner", "()I"⟩ ∈ aw_all := aw_s 82 rfl rfl
theorem lk_83 : Cond.selects "BellHeirsModel" ⟨"BellHeirsModel", "isCompared", "()Z"⟩ ⟨"BellHeirsModel", "isCompared", "()Z"⟩ ∈ aw_all := aw_s 83 rfl rfl
theorem lk_84 : Cond.selects "BellHeirsModel" ⟨"BellHeirsModel", "behindTest", "()I"⟩ ⟨"BellHeirsModel", "behindTest", "()I"⟩ ∈ aw_all := aw_s 84 rfl rfl
theorem lk_85 : Cond.selects "BellHeirsModel" ⟨"BellHeirsModel", "endText", "()V"⟩ ⟨"BellHeirsModel", "endText", "()V"⟩ ∈ aw_all := aw_s 85 rfl rfl
theorem lk_86 : Cond.selects "BellHeirsModel" ⟨"BellHeirsModel", "isBarred", "(III)Z"⟩ ⟨"BellHeirsModel", "isBarred", "(III)Z"⟩ ∈ aw_all := aw_s 86 rfl rfl
theorem lk_87 : Cond.selects "BellHeirsModel" ⟨"BellHeirsModel", "canSell", "(III)Z"⟩ ⟨"BellHeirsModel", "canSell", "(III)Z"⟩ ∈ aw_all := aw_s 87 rfl rfl
theorem lk_88 : Cond.selects "BellHeirsModel" ⟨"BellHeirsModel", "canBuy", "(III)Z"⟩ ⟨"BellHeirsModel", "canBuy", "(III)Z"⟩ ∈ aw_all := aw_s 88 rfl rfl
theorem lk_89 : Cond.selects "BellHeirsModel" ⟨"BellHeirsModel", "costsOf", "(III)I"⟩ ⟨"BellHeirsModel", "costsOf", "(III)I"⟩ ∈ aw_all := aw_s 89 rfl rfl
theorem lk_90 : Cond.selects "BellHeirsModel" ⟨"BellHeirsModel", "ringNow", "(II)I"⟩ ⟨"BellHeirsModel", "ringNow", "(II)I"⟩ ∈ aw_all := aw_s 90 rfl rfl
theorem lk_91 : Cond.selects "BellHeirsModel" ⟨"BellHeirsModel", "canRing", "(II)Z"⟩ ⟨"BellHeirsModel", "canRing", "(II)Z"⟩ ∈ aw_all := aw_s 91 rfl rfl
theorem lk_92 : Cond.selects "BellHeirsModel" ⟨"BellHeirsModel", "remember", "(I)V"⟩ ⟨"BellHeirsModel", "remember", "(I)V"⟩ ∈ aw_all := aw_s 92 rfl rfl
theorem lk_93 : Cond.selects "BellHeirsModel" ⟨"BellHeirsModel", "keepAll", "(I)V"⟩ ⟨"BellHeirsModel", "keepAll", "(I)V"⟩ ∈ aw_all := aw_s 93 rfl rfl
theorem lk_94 : Cond.selects "BellHeirsModel" ⟨"BellHeirsModel", "ringIt", "(II)I"⟩ ⟨"BellHeirsModel", "ringIt", "(II)I"⟩ ∈ aw_all := aw_s 94 rfl rfl
theorem lk_95 : Cond.selects "BellHeirsModel" ⟨"BellHeirsModel", "sellNow", "(III)I"⟩ ⟨"BellHeirsModel", "sellNow", "(III)I"⟩ ∈ aw_all := aw_s 95 rfl rfl
theorem lk_96 : Cond.selects "BellHeirsModel" ⟨"BellHeirsModel", "dieNow", "(I)I"⟩ ⟨"BellHeirsModel", "dieNow", "(I)I"⟩ ∈ aw_all := aw_s 96 rfl rfl
theorem lk_97 : Cond.selects "BellHeirsModel" ⟨"BellHeirsModel", "dieIt", "(I)I"⟩ ⟨"BellHeirsModel", "dieIt", "(I)I"⟩ ∈ aw_all := aw_s 97 rfl rfl
theorem lk_98 : Cond.selects "BellHeirsModel" ⟨"BellHeirsModel", "living", "()I"⟩ ⟨"BellHeirsModel", "living", "()I"⟩ ∈ aw_all := aw_s 98 rfl rfl
theorem lk_99 : Cond.selects "BellHeirsModel" ⟨"BellHeirsModel", "passNow", "()I"⟩ ⟨"BellHeirsModel", "passNow", "()I"⟩ ∈ aw_all := aw_s 99 rfl rfl
theorem lk_100 : Cond.selects "BellHeirsModel" ⟨"BellHeirsModel", "passIt", "()V"⟩ ⟨"BellHeirsModel", "passIt", "()V"⟩ ∈ aw_all := aw_s 100 rfl rfl
theorem lk_101 : Cond.selects "BellHeirsModel" ⟨"BellHeirsModel", "findVisits", "(II)V"⟩ ⟨"BellHeirsModel", "findVisits", "(II)V"⟩ ∈ aw_all := aw_s 101 rfl rfl
theorem lk_102 : Cond.selects "BellHeirsModel" ⟨"BellHeirsModel", "isNew", "(I)Z"⟩ ⟨"BellHeirsModel", "isNew", "(I)Z"⟩ ∈ aw_all := aw_s 102 rfl rfl
theorem lk_103 : Cond.selects "BellHeirsModel" ⟨"BellHeirsModel", "findExchange", "()I"⟩ ⟨"BellHeirsModel", "findExchange", "()I"⟩ ∈ aw_all := aw_s 103 rfl rfl
theorem lk_104 : Cond.selects "BellHeirsModel" ⟨"BellHeirsModel", "gets", "()I"⟩ ⟨"BellHeirsModel", "gets", "()I"⟩ ∈ aw_all := aw_s 104 rfl rfl
theorem lk_105 : Cond.selects "BellHeirsModel" ⟨"BellHeirsModel", "canGive", "(I)Z"⟩ ⟨"BellHeirsModel", "canGive", "(I)Z"⟩ ∈ aw_all := aw_s 105 rfl rfl
theorem lk_106 : Cond.selects "BellHeirsModel" ⟨"BellHeirsModel", "whoCan", "()I"⟩ ⟨"BellHeirsModel", "whoCan", "()I"⟩ ∈ aw_all := aw_s 106 rfl rfl
theorem lk_107 : Cond.selects "BellHeirsModel" ⟨"BellHeirsModel", "canHaveRung", "(I)Z"⟩ ⟨"BellHeirsModel", "canHaveRung", "(I)Z"⟩ ∈ aw_all := aw_s 107 rfl rfl
theorem lk_108 : Cond.selects "BellHeirsModel" ⟨"BellHeirsModel", "timesTold", "(I)I"⟩ ⟨"BellHeirsModel", "timesTold", "(I)I"⟩ ∈ aw_all := aw_s 108 rfl rfl
theorem lk_109 : Cond.selects "BellHeirsModel" ⟨"BellHeirsModel", "keptBy", "(IIII)I"⟩ ⟨"BellHeirsModel", "keptBy", "(IIII)I"⟩ ∈ aw_all := aw_s 109 rfl rfl
theorem lk_110 : Cond.selects "BellHeirsModel" ⟨"BellHeirsModel", "worthOfAll", "(III)I"⟩ ⟨"BellHeirsModel", "worthOfAll", "(III)I"⟩ ∈ aw_all := aw_s 110 rfl rfl
theorem lk_111 : Cond.selects "BellHeirsModel" ⟨"BellHeirsModel", "chainBy", "(III)I"⟩ ⟨"BellHeirsModel", "chainBy", "(III)I"⟩ ∈ aw_all := aw_s 111 rfl rfl
theorem lk_112 : Cond.selects "BellHeirsModel" ⟨"BellHeirsModel", "readOrder", "()V"⟩ ⟨"BellHeirsModel", "readOrder", "()V"⟩ ∈ aw_all := aw_s 112 rfl rfl
theorem lk_113 : Cond.selects "BellHeirsModel" ⟨"BellHeirsModel", "readSum", "(I)V"⟩ ⟨"BellHeirsModel", "readSum", "(I)V"⟩ ∈ aw_all := aw_s 113 rfl rfl
theorem lk_114 : Cond.selects "BellHeirsModel" ⟨"BellHeirsModel", "behind", "(JI)V"⟩ ⟨"BellHeirsModel", "behind", "(JI)V"⟩ ∈ aw_all := aw_s 114 rfl rfl
theorem lk_115 : Cond.selects "BellHeirsModel" ⟨"BellHeirsModel", "run", "(I)I"⟩ ⟨"BellHeirsModel", "run", "(I)I"⟩ ∈ aw_all := aw_s 115 rfl rfl
theorem lk_116 : Cond.selects "BellHeirsModel" ⟨"BellHeirsModel", "sumOf", "(I)I"⟩ ⟨"BellHeirsModel", "sumOf", "(I)I"⟩ ∈ aw_all := aw_s 116 rfl rfl
theorem lk_117 : Cond.selects "BellHeirsModel" ⟨"BellHeirsModel", "act", "(IIII)I"⟩ ⟨"BellHeirsModel", "act", "(IIII)I"⟩ ∈ aw_all := aw_s 117 rfl rfl
theorem lk_118 : Cond.selects "BellHeirsModel" ⟨"BellHeirsModel", "giveBack", "(I)V"⟩ ⟨"BellHeirsModel", "giveBack", "(I)V"⟩ ∈ aw_all := aw_s 118 rfl rfl
theorem lk_119 : Cond.selects "BellHeirsModel" ⟨"BellHeirsModel", "draw", "(I)I"⟩ ⟨"BellHeirsModel", "draw", "(I)I"⟩ ∈ aw_all := aw_s 119 rfl rfl
theorem lk_120 : (Cond.initialized "BellHeirsLaw") ∈ aw_all := aw_1 0 rfl rfl
theorem lk_121 : (Cond.initialized "BellHeirs") ∈ aw_all := aw_1 1 rfl rfl
theorem lk_122 : (Cond.initialized "BellHeirs$Suburb") ∈ aw_all := aw_1 2 rfl rfl
theorem lk_123 : (Cond.initialized "BellHeirs$Ledger") ∈ aw_all := aw_1 3 rfl rfl
theorem lk_124 : (Cond.initialized "BellHeirs$Log") ∈ aw_all := aw_1 4 rfl rfl
theorem lk_125 : (Cond.initialized "BellHeirs$Tape") ∈ aw_all := aw_1 5 rfl rfl
theorem lk_126 : (Cond.initialized "BellHeirs$Reader") ∈ aw_all := aw_1 6 rfl rfl
theorem lk_127 : (Cond.initialized "BellHeirs$Text") ∈ aw_all := aw_1 7 rfl rfl
theorem lk_128 : (Cond.initialized "BellHeirs$Asker") ∈ aw_all := aw_1 8 rfl rfl
theorem lk_129 : (Cond.initialized "BellHeirs$Scale") ∈ aw_all := aw_1 9 rfl rfl
theorem lk_130 : (Cond.initialized "BellHeirs$Deeds") ∈ aw_all := aw_1 10 rfl rfl
theorem lk_131 : (Cond.initialized "BellHeirs$Plans") ∈ aw_all := aw_1 11 rfl rfl
theorem lk_132 : (Cond.initialized "BellHeirs$Shares") ∈ aw_all := aw_1 12 rfl rfl
theorem lk_133 : (Cond.initialized "BellHeirsModel") ∈ aw_all := aw_1 13 rfl rfl
theorem lk_134 : (Cond.initialized "java/lang/Math") ∈ aw_all := aw_1 14 rfl rfl
theorem lk_135 : (Cond.initialized "java/lang/String") ∈ aw_all := aw_1 15 rfl rfl
theorem lk_136 : (Cond.initialized "java/lang/StringLatin1") ∈ aw_all := aw_1 16 rfl rfl
theorem lk_137 : (Cond.initialized "jdk/internal/util/Preconditions") ∈ aw_all := aw_1 17 rfl rfl
theorem lk_138 : (Cond.initialized "java/lang/StringUTF16") ∈ aw_all := aw_1 18 rfl rfl
theorem lk_139 : (Cond.initialized "java/lang/System") ∈ aw_all := aw_1 19 rfl rfl
theorem lk_140 : (Cond.initialized "java/lang/Integer") ∈ aw_all := aw_1 20 rfl rfl
theorem lk_141 : (Cond.classLink "BellHeirsLaw" (7 : Nat) "BellHeirs") ∈ aw_all := aw_1 21 rfl rfl
theorem lk_142 : (Cond.instantiable "BellHeirs" (18 : Nat)) ∈ aw_all := aw_1 22 rfl rfl
theorem lk_143 : (Cond.methodLink "BellHeirsLaw" (9 : Nat) ({ cls := "BellHeirs", name := "<init>", desc := "()V" } : MethodName)) ∈ aw_all := aw_1 23 rfl rfl
theorem lk_144 : (Cond.instanceMethod ({ cls := "BellHeirs", name := "<init>", desc := "()V" } : MethodName)) ∈ aw_all := aw_1 24 rfl rfl
theorem lk_145 : (Cond.code ({ cls := "BellHeirs", name := "<init>", desc := "()V" } : MethodName) prog_1_method_1_code (1 : Nat) (Option.none : Option Jvm.ClassFile.FieldType)) ∈ aw_all := aw_1 25 rfl rfl
theorem lk_146 : (Cond.methodLink "BellHeirs" (1 : Nat) ({ cls := "java/lang/Object", name := "<init>", desc := "()V" } : MethodName)) ∈ aw_all := aw_1 26 rfl rfl
theorem lk_147 : (Cond.instanceMethod ({ cls := "java/lang/Object", name := "<init>", desc := "()V" } : MethodName)) ∈ aw_all := aw_1 27 rfl rfl
theorem lk_148 : (Cond.code ({ cls := "java/lang/Object", name := "<init>", desc := "()V" } : MethodName) object_method_1_code (1 : Nat) (Option.none : Option Jvm.ClassFile.FieldType)) ∈ aw_all := aw_1 28 rfl rfl
theorem lk_149 : (Cond.classLink "BellHeirs" (7 : Nat) "BellHeirs$Suburb") ∈ aw_all := aw_1 29 rfl rfl
theorem lk_150 : (Cond.instantiable "BellHeirs$Suburb" (17 : Nat)) ∈ aw_all := aw_1 30 rfl rfl
theorem lk_152 : (Cond.instanceMethod ({ cls := "BellHeirs$Suburb", name := "<init>", desc := "()V" } : MethodName)) ∈ aw_all := aw_1 32 rfl rfl
theorem lk_153 : (Cond.code ({ cls := "BellHeirs$Suburb", name := "<init>", desc := "()V" } : MethodName) prog_10_method_1_code (1 : Nat) (Option.none : Option Jvm.ClassFile.FieldType)) ∈ aw_all := aw_1 33 rfl rfl
theorem lk_154 : (Cond.methodLink "BellHeirs$Suburb" (3 : Nat) ({ cls := "java/lang/Object", name := "<init>", desc := "()V" } : MethodName)) ∈ aw_all := aw_1 34 rfl rfl
theorem lk_155 : (Cond.classLink "BellHeirs$Suburb" (9 : Nat) "BellHeirs$Ledger") ∈ aw_all := aw_1 35 rfl rfl
theorem lk_156 : (Cond.instantiable "BellHeirs$Ledger" (6 : Nat)) ∈ aw_all := aw_1 36 rfl rfl
theorem lk_158 : (Cond.instanceMethod ({ cls := "BellHeirs$Ledger", name := "<init>", desc := "()V" } : MethodName)) ∈ aw_all := aw_1 38 rfl rfl
theorem lk_159 : (Cond.code ({ cls := "BellHeirs$Ledger", name := "<init>", desc := "()V" } : MethodName) prog_4_method_1_code (1 : Nat) (Option.none : Option Jvm.ClassFile.FieldType)) ∈ aw_all := aw_1 39 rfl rfl
theorem lk_160 : (Cond.methodLink "BellHeirs$Ledger" (3 : Nat) ({ cls := "java/lang/Object", name := "<init>", desc := "()V" } : MethodName)) ∈ aw_all := aw_1 40 rfl rfl
theorem lk_161 : (Cond.fieldLink "BellHeirs$Ledger" (9 : Nat) "BellHeirs$Ledger" "rights" "[I") ∈ aw_all := aw_1 41 rfl rfl
theorem lk_162 : (Cond.fieldLink "BellHeirs$Suburb" (84 : Nat) "BellHeirs$Ledger" "rights" "[I") ∈ aw_all := aw_1 42 rfl rfl
theorem lk_163 : (Cond.fieldLink "BellHeirs$Deeds" (94 : Nat) "BellHeirs$Ledger" "rights" "[I") ∈ aw_all := aw_1 43 rfl rfl
theorem lk_164 : (Cond.fieldLink "BellHeirs" (189 : Nat) "BellHeirs$Ledger" "rights" "[I") ∈ aw_all := aw_1 44 rfl rfl
theorem lk_165 : (Cond.fieldLink "BellHeirs$Ledger" (15 : Nat) "BellHeirs$Ledger" "used" "[I") ∈ aw_all := aw_1 45 rfl rfl
theorem lk_166 : (Cond.fieldLink "BellHeirs$Deeds" (70 : Nat) "BellHeirs$Ledger" "used" "[I") ∈ aw_all := aw_1 46 rfl rfl
theorem lk_167 : (Cond.fieldLink "BellHeirs$Suburb" (91 : Nat) "BellHeirs$Ledger" "used" "[I") ∈ aw_all := aw_1 47 rfl rfl
theorem lk_168 : (Cond.fieldLink "BellHeirs$Ledger" (18 : Nat) "BellHeirs$Ledger" "weary" "[I") ∈ aw_all := aw_1 48 rfl rfl
theorem lk_169 : (Cond.fieldLink "BellHeirs$Deeds" (78 : Nat) "BellHeirs$Ledger" "weary" "[I") ∈ aw_all := aw_1 49 rfl rfl
theorem lk_170 : (Cond.fieldLink "BellHeirs$Suburb" (81 : Nat) "BellHeirs$Ledger" "weary" "[I") ∈ aw_all := aw_1 50 rfl rfl
theorem lk_171 : (Cond.fieldLink "BellHeirs" (137 : Nat) "BellHeirs$Ledger" "weary" "[I") ∈ aw_all := aw_1 51 rfl rfl
theorem lk_172 : (Cond.fieldLink "BellHeirs$Asker" (49 : Nat) "BellHeirs$Ledger" "weary" "[I") ∈ aw_all := aw_1 52 rfl rfl
theorem lk_173 : (Cond.fieldLink "BellHeirs$Ledger" (21 : Nat) "BellHeirs$Ledger" "purse" "[I") ∈ aw_all := aw_1 53 rfl rfl
theorem lk_174 : (Cond.fieldLink "BellHeirs$Deeds" (97 : Nat) "BellHeirs$Ledger" "purse" "[I") ∈ aw_all := aw_1 54 rfl rfl
theorem lk_175 : (Cond.fieldLink "BellHeirs$Suburb" (94 : Nat) "BellHeirs$Ledger" "purse" "[I") ∈ aw_all := aw_1 55 rfl rfl
theorem lk_176 : (Cond.fieldLink "BellHeirs" (168 : Nat) "BellHeirs$Ledger" "purse" "[I") ∈ aw_all := aw_1 56 rfl rfl
theorem lk_177 : (Cond.fieldLink "BellHeirs$Asker" (64 : Nat) "BellHeirs$Ledger" "purse" "[I") ∈ aw_all := aw_1 57 rfl rfl
theorem lk_178 : (Cond.fieldLink "BellHeirs$Ledger" (24 : Nat) "BellHeirs$Ledger" "dead" "I") ∈ aw_all := aw_1 58 rfl rfl
theorem lk_179 : (Cond.fieldLink "BellHeirs$Suburb" (97 : Nat) "BellHeirs$Ledger" "dead" "I") ∈ aw_all := aw_1 59 rfl rfl
theorem lk_180 : (Cond.fieldLink "BellHeirs$Deeds" (117 : Nat) "BellHeirs$Ledger" "dead" "I") ∈ aw_all := aw_1 60 rfl rfl
theorem lk_181 : (Cond.fieldLink "BellHeirs$Ledger" (28 : Nat) "BellHeirs$Ledger" "year" "I") ∈ aw_all := aw_1 61 rfl rfl
theorem lk_182 : (Cond.fieldLink "BellHeirs" (145 : Nat) "BellHeirs$Ledger" "year" "I") ∈ aw_all := aw_1 62 rfl rfl
theorem lk_183 : (Cond.fieldLink "BellHeirs$Deeds" (127 : Nat) "BellHeirs$Ledger" "year" "I") ∈ aw_all := aw_1 63 rfl rfl
theorem lk_184 : (Cond.fieldLink "BellHeirs$Asker" (71 : Nat) "BellHeirs$Ledger" "year" "I") ∈ aw_all := aw_1 64 rfl rfl
theorem lk_198 : (Cond.arrayClass FieldType.int) ∈ aw_all := aw_1 78 rfl rfl
theorem lk_199 : (Cond.classLink "BellHeirs$Suburb" (62 : Nat) "BellHeirs$Text") ∈ aw_all := aw_1 79 rfl rfl
theorem lk_201 : (Cond.fieldLink "BellHeirs$Suburb" (12 : Nat) "BellHeirs$Suburb" "ledger" "LBellHeirs$Ledger;") ∈ aw_all := aw_1 81 rfl rfl
theorem lk_202 : (Cond.fieldLink "BellHeirs$Deeds" (52 : Nat) "BellHeirs$Suburb" "ledger" "LBellHeirs$Ledger;") ∈ aw_all := aw_1 82 rfl rfl
theorem lk_203 : (Cond.fieldLink "BellHeirs" (133 : Nat) "BellHeirs$Suburb" "ledger" "LBellHeirs$Ledger;") ∈ aw_all := aw_1 83 rfl rfl
theorem lk_204 : (Cond.fieldLink "BellHeirs$Asker" (45 : Nat) "BellHeirs$Suburb" "ledger" "LBellHeirs$Ledger;") ∈ aw_all := aw_1 84 rfl rfl
theorem lk_205 : (Cond.fieldLink "BellHeirs$Suburb" (18 : Nat) "BellHeirs$Suburb" "houses" "I") ∈ aw_all := aw_1 85 rfl rfl
theorem lk_206 : (Cond.fieldLink "BellHeirs" (110 : Nat) "BellHeirs$Suburb" "houses" "I") ∈ aw_all := aw_1 86 rfl rfl
theorem lk_207 : (Cond.fieldLink "BellHeirs$Plans" (65 : Nat) "BellHeirs$Suburb" "houses" "I") ∈ aw_all := aw_1 87 rfl rfl
theorem lk_208 : (Cond.fieldLink "BellHeirs$Deeds" (110 : Nat) "BellHeirs$Suburb" "houses" "I") ∈ aw_all := aw_1 88 rfl rfl
theorem lk_209 : (Cond.fieldLink "BellHeirs$Suburb" (22 : Nat) "BellHeirs$Suburb" "place" "[I") ∈ aw_all := aw_1 89 rfl rfl
theorem lk_210 : (Cond.fieldLink "BellHeirs" (127 : Nat) "BellHeirs$Suburb" "place" "[I") ∈ aw_all := aw_1 90 rfl rfl
theorem lk_211 : (Cond.fieldLink "BellHeirs$Plans" (68 : Nat) "BellHeirs$Suburb" "place" "[I") ∈ aw_all := aw_1 91 rfl rfl
theorem lk_212 : (Cond.fieldLink "BellHeirs$Suburb" (26 : Nat) "BellHeirs$Suburb" "bears" "[I") ∈ aw_all := aw_1 92 rfl rfl
theorem lk_213 : (Cond.fieldLink "BellHeirs$Shares" (38 : Nat) "BellHeirs$Suburb" "bears" "[I") ∈ aw_all := aw_1 93 rfl rfl
theorem lk_214 : (Cond.fieldLink "BellHeirs" (130 : Nat) "BellHeirs$Suburb" "bears" "[I") ∈ aw_all := aw_1 94 rfl rfl
theorem lk_215 : (Cond.fieldLink "BellHeirs$Suburb" (29 : Nat) "BellHeirs$Suburb" "people" "I") ∈ aw_all := aw_1 95 rfl rfl
theorem lk_216 : (Cond.fieldLink "BellHeirs$Shares" (28 : Nat) "BellHeirs$Suburb" "people" "I") ∈ aw_all := aw_1 96 rfl rfl
theorem lk_217 : (Cond.fieldLink "BellHeirs$Plans" (82 : Nat) "BellHeirs$Suburb" "people" "I") ∈ aw_all := aw_1 97 rfl rfl
theorem lk_218 : (Cond.fieldLink "BellHeirs" (152 : Nat) "BellHeirs$Suburb" "people" "I") ∈ aw_all := aw_1 98 rfl rfl
theorem lk_219 : (Cond.fieldLink "BellHeirs$Deeds" (120 : Nat) "BellHeirs$Suburb" "people" "I") ∈ aw_all := aw_1 99 rfl rfl
theorem lk_220 : (Cond.fieldLink "BellHeirs$Suburb" (32 : Nat) "BellHeirs$Suburb" "home" "[I") ∈ aw_all := aw_1 100 rfl rfl
theorem lk_221 : (Cond.fieldLink "BellHeirs$Plans" (52 : Nat) "BellHeirs$Suburb" "home" "[I") ∈ aw_all := aw_1 101 rfl rfl
theorem lk_222 : (Cond.fieldLink "BellHeirs" (162 : Nat) "BellHeirs$Suburb" "home" "[I") ∈ aw_all := aw_1 102 rfl rfl
theorem lk_223 : (Cond.fieldLink "BellHeirs$Suburb" (35 : Nat) "BellHeirs$Suburb" "age" "[I") ∈ aw_all := aw_1 103 rfl rfl
theorem lk_224 : (Cond.fieldLink "BellHeirs" (165 : Nat) "BellHeirs$Suburb" "age" "[I") ∈ aw_all := aw_1 104 rfl rfl
theorem lk_225 : (Cond.fieldLink "BellHeirs$Asker" (61 : Nat) "BellHeirs$Suburb" "age" "[I") ∈ aw_all := aw_1 105 rfl rfl
theorem lk_226 : (Cond.fieldLink "BellHeirs$Suburb" (38 : Nat) "BellHeirs$Suburb" "want" "[I") ∈ aw_all := aw_1 106 rfl rfl
theorem lk_227 : (Cond.fieldLink "BellHeirs" (171 : Nat) "BellHeirs$Suburb" "want" "[I") ∈ aw_all := aw_1 107 rfl rfl
theorem lk_228 : (Cond.fieldLink "BellHeirs$Plans" (111 : Nat) "BellHeirs$Suburb" "want" "[I") ∈ aw_all := aw_1 108 rfl rfl
theorem lk_229 : (Cond.fieldLink "BellHeirs$Suburb" (41 : Nat) "BellHeirs$Suburb" "heirs" "[I") ∈ aw_all := aw_1 109 rfl rfl
theorem lk_230 : (Cond.fieldLink "BellHeirs" (174 : Nat) "BellHeirs$Suburb" "heirs" "[I") ∈ aw_all := aw_1 110 rfl rfl
theorem lk_231 : (Cond.fieldLink "BellHeirs$Suburb" (44 : Nat) "BellHeirs$Suburb" "clues" "I") ∈ aw_all := aw_1 111 rfl rfl
theorem lk_232 : (Cond.fieldLink "BellHeirs" (307 : Nat) "BellHeirs$Suburb" "clues" "I") ∈ aw_all := aw_1 112 rfl rfl
theorem lk_233 : (Cond.fieldLink "BellHeirs$Suburb" (47 : Nat) "BellHeirs$Suburb" "clueHouse" "[I") ∈ aw_all := aw_1 113 rfl rfl
theorem lk_234 : (Cond.fieldLink "BellHeirs" (310 : Nat) "BellHeirs$Suburb" "clueHouse" "[I") ∈ aw_all := aw_1 114 rfl rfl
theorem lk_235 : (Cond.fieldLink "BellHeirs$Suburb" (50 : Nat) "BellHeirs$Suburb" "clueSteps" "[I") ∈ aw_all := aw_1 115 rfl rfl
theorem lk_236 : (Cond.fieldLink "BellHeirs" (313 : Nat) "BellHeirs$Suburb" "clueSteps" "[I") ∈ aw_all := aw_1 116 rfl rfl
theorem lk_237 : (Cond.fieldLink "BellHeirs$Suburb" (53 : Nat) "BellHeirs$Suburb" "sleep" "I") ∈ aw_all := aw_1 117 rfl rfl
theorem lk_238 : (Cond.fieldLink "BellHeirs" (217 : Nat) "BellHeirs$Suburb" "sleep" "I") ∈ aw_all := aw_1 118 rfl rfl
theorem lk_239 : (Cond.fieldLink "BellHeirs$Suburb" (56 : Nat) "BellHeirs$Suburb" "mood" "I") ∈ aw_all := aw_1 119 rfl rfl
theorem lk_240 : (Cond.fieldLink "BellHeirs$Asker" (75 : Nat) "BellHeirs$Suburb" "mood" "I") ∈ aw_all := aw_1 120 rfl rfl
theorem lk_241 : (Cond.fieldLink "BellHeirs" (220 : Nat) "BellHeirs$Suburb" "mood" "I") ∈ aw_all := aw_1 121 rfl rfl
theorem lk_242 : (Cond.fieldLink "BellHeirs$Suburb" (59 : Nat) "BellHeirs$Suburb" "laws" "I") ∈ aw_all := aw_1 122 rfl rfl
theorem lk_243 : (Cond.fieldLink "BellHeirs" (233 : Nat) "BellHeirs$Suburb" "laws" "I") ∈ aw_all := aw_1 123 rfl rfl
theorem lk_244 : (Cond.fieldLink "BellHeirs$Suburb" (64 : Nat) "BellHeirs$Suburb" "lawTexts" "[LBellHeirs$Text;") ∈ aw_all := aw_1 124 rfl rfl
theorem lk_245 : (Cond.fieldLink "BellHeirs$Suburb" (68 : Nat) "BellHeirs$Suburb" "force" "I") ∈ aw_all := aw_1 125 rfl rfl
theorem lk_246 : (Cond.fieldLink "BellHeirs" (264 : Nat) "BellHeirs$Suburb" "force" "I") ∈ aw_all := aw_1 126 rfl rfl
theorem lk_283 : (Cond.classLink "BellHeirs" (23 : Nat) "BellHeirs$Log") ∈ aw_all := aw_1 163 rfl rfl
theorem lk_284 : (Cond.instantiable "BellHeirs$Log" (4 : Nat)) ∈ aw_all := aw_1 164 rfl rfl
theorem lk_286 : (Cond.instanceMethod ({ cls := "BellHeirs$Log", name := "<init>", desc := "()V" } : MethodName)) ∈ aw_all := aw_1 166 rfl rfl
theorem lk_287 : (Cond.code ({ cls := "BellHeirs$Log", name := "<init>", desc := "()V" } : MethodName) prog_5_method_1_code (1 : Nat) (Option.none : Option Jvm.ClassFile.FieldType)) ∈ aw_all := aw_1 167 rfl rfl
theorem lk_288 : (Cond.methodLink "BellHeirs$Log" (3 : Nat) ({ cls := "java/lang/Object", name := "<init>", desc := "()V" } : MethodName)) ∈ aw_all := aw_1 168 rfl rfl
theorem lk_289 : (Cond.classLink "BellHeirs$Log" (9 : Nat) "BellHeirs$Ledger") ∈ aw_all := aw_1 169 rfl rfl
theorem lk_291 : (Cond.fieldLink "BellHeirs$Log" (11 : Nat) "BellHeirs$Log" "ledgers" "[LBellHeirs$Ledger;") ∈ aw_all := aw_1 171 rfl rfl
theorem lk_292 : (Cond.fieldLink "BellHeirs$Log" (17 : Nat) "BellHeirs$Log" "kinds" "[I") ∈ aw_all := aw_1 172 rfl rfl
theorem lk_293 : (Cond.fieldLink "BellHeirs$Log" (21 : Nat) "BellHeirs$Log" "next" "I") ∈ aw_all := aw_1 173 rfl rfl
theorem lk_294 : (Cond.fieldLink "BellHeirs$Log" (25 : Nat) "BellHeirs$Log" "size" "I") ∈ aw_all := aw_1 174 rfl rfl
theorem lk_295 : (Cond.fieldLink "BellHeirs" (378 : Nat) "BellHeirs$Log" "size" "I") ∈ aw_all := aw_1 175 rfl rfl
theorem lk_305 : (Cond.classLink "BellHeirs" (30 : Nat) "BellHeirs$Tape") ∈ aw_all := aw_1 185 rfl rfl
theorem lk_306 : (Cond.instantiable "BellHeirs$Tape" (6 : Nat)) ∈ aw_all := aw_1 186 rfl rfl
theorem lk_308 : (Cond.instanceMethod ({ cls := "BellHeirs$Tape", name := "<init>", desc := "()V" } : MethodName)) ∈ aw_all := aw_1 188 rfl rfl
theorem lk_309 : (Cond.code ({ cls := "BellHeirs$Tape", name := "<init>", desc := "()V" } : MethodName) prog_11_method_1_code (1 : Nat) (Option.none : Option Jvm.ClassFile.FieldType)) ∈ aw_all := aw_1 189 rfl rfl
theorem lk_310 : (Cond.methodLink "BellHeirs$Tape" (3 : Nat) ({ cls := "java/lang/Object", name := "<init>", desc := "()V" } : MethodName)) ∈ aw_all := aw_1 190 rfl rfl
theorem lk_311 : (Cond.fieldLink "BellHeirs$Tape" (9 : Nat) "BellHeirs$Tape" "bytes" "[I") ∈ aw_all := aw_1 191 rfl rfl
theorem lk_312 : (Cond.fieldLink "BellHeirs" (381 : Nat) "BellHeirs$Tape" "bytes" "[I") ∈ aw_all := aw_1 192 rfl rfl
theorem lk_313 : (Cond.fieldLink "BellHeirs$Tape" (15 : Nat) "BellHeirs$Tape" "length" "I") ∈ aw_all := aw_1 193 rfl rfl
theorem lk_314 : (Cond.fieldLink "BellHeirs" (223 : Nat) "BellHeirs$Tape" "length" "I") ∈ aw_all := aw_1 194 rfl rfl
theorem lk_315 : (Cond.fieldLink "BellHeirs$Tape" (19 : Nat) "BellHeirs$Tape" "token" "I") ∈ aw_all := aw_1 195 rfl rfl
theorem lk_316 : (Cond.fieldLink "BellHeirs$Reader" (45 : Nat) "BellHeirs$Tape" "token" "I") ∈ aw_all := aw_1 196 rfl rfl
theorem lk_317 : (Cond.fieldLink "BellHeirs$Tape" (22 : Nat) "BellHeirs$Tape" "start" "I") ∈ aw_all := aw_1 197 rfl rfl
theorem lk_318 : (Cond.fieldLink "BellHeirs$Reader" (52 : Nat) "BellHeirs$Tape" "start" "I") ∈ aw_all := aw_1 198 rfl rfl
theorem lk_319 : (Cond.fieldLink "BellHeirs$Tape" (25 : Nat) "BellHeirs$Tape" "number" "I") ∈ aw_all := aw_1 199 rfl rfl
theorem lk_320 : (Cond.fieldLink "BellHeirs$Reader" (120 : Nat) "BellHeirs$Tape" "number" "I") ∈ aw_all := aw_1 200 rfl rfl
theorem lk_321 : (Cond.fieldLink "BellHeirs$Tape" (28 : Nat) "BellHeirs$Tape" "stop" "I") ∈ aw_all := aw_1 201 rfl rfl
theorem lk_335 : (Cond.classLink "BellHeirs" (37 : Nat) "BellHeirs$Reader") ∈ aw_all := aw_1 215 rfl rfl
theorem lk_336 : (Cond.instantiable "BellHeirs$Reader" (4 : Nat)) ∈ aw_all := aw_1 216 rfl rfl
theorem lk_337 : (Cond.methodLink "BellHeirs" (39 : Nat) ({ cls := "BellHeirs$Reader", name := "<init>", desc := "(LBellHeirs$Tape;)V" } : MethodName)) ∈ aw_all := aw_1 217 rfl rfl
theorem lk_338 : (Cond.instanceMethod ({ cls := "BellHeirs$Reader", name := "<init>", desc := "(LBellHeirs$Tape;)V" } : MethodName)) ∈ aw_all := aw_1 218 rfl rfl
theorem lk_339 : (Cond.code ({ cls := "BellHeirs$Reader", name := "<init>", desc := "(LBellHeirs$Tape;)V" } : MethodName) prog_7_method_1_code (2 : Nat) (Option.none : Option Jvm.ClassFile.FieldType)) ∈ aw_all := aw_1 219 rfl rfl
theorem lk_340 : (Cond.methodLink "BellHeirs$Reader" (3 : Nat) ({ cls := "java/lang/Object", name := "<init>", desc := "()V" } : MethodName)) ∈ aw_all := aw_1 220 rfl rfl
theorem lk_341 : (Cond.classLink "BellHeirs$Reader" (9 : Nat) "BellHeirs$Text") ∈ aw_all := aw_1 221 rfl rfl
theorem lk_342 : (Cond.instantiable "BellHeirs$Text" (7 : Nat)) ∈ aw_all := aw_1 222 rfl rfl
theorem lk_343 : (Cond.methodLink "BellHeirs$Reader" (11 : Nat) ({ cls := "BellHeirs$Text", name := "<init>", desc := "()V" } : MethodName)) ∈ aw_all := aw_1 223 rfl rfl
theorem lk_344 : (Cond.instanceMethod ({ cls := "BellHeirs$Text", name := "<init>", desc := "()V" } : MethodName)) ∈ aw_all := aw_1 224 rfl rfl
theorem lk_345 : (Cond.code ({ cls := "BellHeirs$Text", name := "<init>", desc := "()V" } : MethodName) prog_12_method_1_code (1 : Nat) (Option.none : Option Jvm.ClassFile.FieldType)) ∈ aw_all := aw_1 225 rfl rfl
theorem lk_346 : (Cond.methodLink "BellHeirs$Text" (3 : Nat) ({ cls := "java/lang/Object", name := "<init>", desc := "()V" } : MethodName)) ∈ aw_all := aw_1 226 rfl rfl
theorem lk_347 : (Cond.fieldLink "BellHeirs$Text" (9 : Nat) "BellHeirs$Text" "clauses" "I") ∈ aw_all := aw_1 227 rfl rfl
theorem lk_348 : (Cond.fieldLink "BellHeirs$Scale" (15 : Nat) "BellHeirs$Text" "clauses" "I") ∈ aw_all := aw_1 228 rfl rfl
theorem lk_349 : (Cond.fieldLink "BellHeirs$Asker" (78 : Nat) "BellHeirs$Text" "clauses" "I") ∈ aw_all := aw_1 229 rfl rfl
theorem lk_350 : (Cond.fieldLink "BellHeirs$Deeds" (136 : Nat) "BellHeirs$Text" "clauses" "I") ∈ aw_all := aw_1 230 rfl rfl
theorem lk_351 : (Cond.fieldLink "BellHeirs$Text" (15 : Nat) "BellHeirs$Text" "size" "I") ∈ aw_all := aw_1 231 rfl rfl
theorem lk_352 : (Cond.fieldLink "BellHeirs$Scale" (25 : Nat) "BellHeirs$Text" "size" "I") ∈ aw_all := aw_1 232 rfl rfl
theorem lk_353 : (Cond.fieldLink "BellHeirs$Text" (18 : Nat) "BellHeirs$Text" "open" "I") ∈ aw_all := aw_1 233 rfl rfl
theorem lk_354 : (Cond.fieldLink "BellHeirs$Text" (21 : Nat) "BellHeirs$Text" "kind" "[I") ∈ aw_all := aw_1 234 rfl rfl
theorem lk_355 : (Cond.fieldLink "BellHeirs$Asker" (81 : Nat) "BellHeirs$Text" "kind" "[I") ∈ aw_all := aw_1 235 rfl rfl
theorem lk_356 : (Cond.fieldLink "BellHeirs$Deeds" (153 : Nat) "BellHeirs$Text" "kind" "[I") ∈ aw_all := aw_1 236 rfl rfl
theorem lk_357 : (Cond.fieldLink "BellHeirs$Text" (25 : Nat) "BellHeirs$Text" "times" "[I") ∈ aw_all := aw_1 237 rfl rfl
theorem lk_358 : (Cond.fieldLink "BellHeirs$Deeds" (141 : Nat) "BellHeirs$Text" "times" "[I") ∈ aw_all := aw_1 238 rfl rfl
theorem lk_359 : (Cond.fieldLink "BellHeirs$Text" (28 : Nat) "BellHeirs$Text" "marks" "[I") ∈ aw_all := aw_1 239 rfl rfl
theorem lk_360 : (Cond.fieldLink "BellHeirs$Scale" (22 : Nat) "BellHeirs$Text" "marks" "[I") ∈ aw_all := aw_2 0 rfl rfl
theorem lk_361 : (Cond.fieldLink "BellHeirs$Text" (31 : Nat) "BellHeirs$Text" "steps" "[I") ∈ aw_all := aw_2 1 rfl rfl
theorem lk_362 : (Cond.fieldLink "BellHeirs$Scale" (28 : Nat) "BellHeirs$Text" "steps" "[I") ∈ aw_all := aw_2 2 rfl rfl
theorem lk_378 : (Cond.fieldLink "BellHeirs$Reader" (12 : Nat) "BellHeirs$Reader" "text" "LBellHeirs$Text;") ∈ aw_all := aw_2 18 rfl rfl
theorem lk_379 : (Cond.fieldLink "BellHeirs" (242 : Nat) "BellHeirs$Reader" "text" "LBellHeirs$Text;") ∈ aw_all := aw_2 19 rfl rfl
theorem lk_380 : (Cond.fieldLink "BellHeirs$Reader" (26 : Nat) "BellHeirs$Reader" "tape" "LBellHeirs$Tape;") ∈ aw_all := aw_2 20 rfl rfl
theorem lk_381 : (Cond.fieldLink "BellHeirs$Reader" (18 : Nat) "BellHeirs$Reader" "asLaw" "Z") ∈ aw_all := aw_2 21 rfl rfl
theorem lk_382 : (Cond.fieldLink "BellHeirs$Reader" (22 : Nat) "BellHeirs$Reader" "parts" "I") ∈ aw_all := aw_2 22 rfl rfl
theorem lk_392 : (Cond.classLink "BellHeirs" (46 : Nat) "BellHeirs$Asker") ∈ aw_all := aw_2 32 rfl rfl
theorem lk_393 : (Cond.instantiable "BellHeirs$Asker" (2 : Nat)) ∈ aw_all := aw_2 33 rfl rfl
theorem lk_395 : (Cond.instanceMethod ({ cls := "BellHeirs$Asker", name := "<init>", desc := "()V" } : MethodName)) ∈ aw_all := aw_2 35 rfl rfl
theorem lk_396 : (Cond.code ({ cls := "BellHeirs$Asker", name := "<init>", desc := "()V" } : MethodName) prog_2_method_1_code (1 : Nat) (Option.none : Option Jvm.ClassFile.FieldType)) ∈ aw_all := aw_2 36 rfl rfl
theorem lk_397 : (Cond.methodLink "BellHeirs$Asker" (3 : Nat) ({ cls := "java/lang/Object", name := "<init>", desc := "()V" } : MethodName)) ∈ aw_all := aw_2 37 rfl rfl
theorem lk_398 : (Cond.classLink "BellHeirs$Asker" (9 : Nat) "BellHeirs$Scale") ∈ aw_all := aw_2 38 rfl rfl
theorem lk_399 : (Cond.instantiable "BellHeirs$Scale" (1 : Nat)) ∈ aw_all := aw_2 39 rfl rfl
theorem lk_401 : (Cond.instanceMethod ({ cls := "BellHeirs$Scale", name := "<init>", desc := "()V" } : MethodName)) ∈ aw_all := aw_2 41 rfl rfl
theorem lk_402 : (Cond.code ({ cls := "BellHeirs$Scale", name := "<init>", desc := "()V" } : MethodName) prog_8_method_1_code (1 : Nat) (Option.none : Option Jvm.ClassFile.FieldType)) ∈ aw_all := aw_2 42 rfl rfl
theorem lk_403 : (Cond.methodLink "BellHeirs$Scale" (3 : Nat) ({ cls := "java/lang/Object", name := "<init>", desc := "()V" } : MethodName)) ∈ aw_all := aw_2 43 rfl rfl
theorem lk_404 : (Cond.fieldLink "BellHeirs$Scale" (9 : Nat) "BellHeirs$Scale" "stack" "[I") ∈ aw_all := aw_2 44 rfl rfl
theorem lk_408 : (Cond.fieldLink "BellHeirs$Asker" (12 : Nat) "BellHeirs$Asker" "scale" "LBellHeirs$Scale;") ∈ aw_all := aw_2 48 rfl rfl
theorem lk_409 : (Cond.fieldLink "BellHeirs$Asker" (18 : Nat) "BellHeirs$Asker" "words" "[I") ∈ aw_all := aw_2 49 rfl rfl
theorem lk_415 : (Cond.classLink "BellHeirs" (53 : Nat) "BellHeirs$Deeds") ∈ aw_all := aw_2 55 rfl rfl
theorem lk_416 : (Cond.instantiable "BellHeirs$Deeds" (6 : Nat)) ∈ aw_all := aw_2 56 rfl rfl
theorem lk_417 : (Cond.methodLink "BellHeirs" (55 : Nat) ({ cls := "BellHeirs$Deeds", name := "<init>", desc := "(LBellHeirs$Asker;)V" } : MethodName)) ∈ aw_all := aw_2 57 rfl rfl
theorem lk_418 : (Cond.instanceMethod ({ cls := "BellHeirs$Deeds", name := "<init>", desc := "(LBellHeirs$Asker;)V" } : MethodName)) ∈ aw_all := aw_2 58 rfl rfl
theorem lk_419 : (Cond.code ({ cls := "BellHeirs$Deeds", name := "<init>", desc := "(LBellHeirs$Asker;)V" } : MethodName) prog_3_method_1_code (2 : Nat) (Option.none : Option Jvm.ClassFile.FieldType)) ∈ aw_all := aw_2 59 rfl rfl
theorem lk_420 : (Cond.methodLink "BellHeirs$Deeds" (3 : Nat) ({ cls := "java/lang/Object", name := "<init>", desc := "()V" } : MethodName)) ∈ aw_all := aw_2 60 rfl rfl
theorem lk_421 : (Cond.classLink "BellHeirs$Deeds" (9 : Nat) "BellHeirs$Scale") ∈ aw_all := aw_2 61 rfl rfl
theorem lk_423 : (Cond.fieldLink "BellHeirs$Deeds" (32 : Nat) "BellHeirs$Deeds" "asker" "LBellHeirs$Asker;") ∈ aw_all := aw_2 63 rfl rfl
theorem lk_424 : (Cond.fieldLink "BellHeirs$Deeds" (12 : Nat) "BellHeirs$Deeds" "scale" "LBellHeirs$Scale;") ∈ aw_all := aw_2 64 rfl rfl
theorem lk_425 : (Cond.fieldLink "BellHeirs$Deeds" (18 : Nat) "BellHeirs$Deeds" "words" "[I") ∈ aw_all := aw_2 65 rfl rfl
theorem lk_426 : (Cond.fieldLink "BellHeirs$Deeds" (22 : Nat) "BellHeirs$Deeds" "latest" "I") ∈ aw_all := aw_2 66 rfl rfl
theorem lk_427 : (Cond.fieldLink "BellHeirs$Deeds" (26 : Nat) "BellHeirs$Deeds" "drawing" "I") ∈ aw_all := aw_2 67 rfl rfl
theorem lk_428 : (Cond.fieldLink "BellHeirs$Deeds" (29 : Nat) "BellHeirs$Deeds" "done" "I") ∈ aw_all := aw_2 68 rfl rfl
theorem lk_429 : (Cond.fieldLink "BellHeirs" (261 : Nat) "BellHeirs$Deeds" "done" "I") ∈ aw_all := aw_2 69 rfl rfl
theorem lk_443 : (Cond.classLink "BellHeirs" (62 : Nat) "BellHeirs$Plans") ∈ aw_all := aw_2 83 rfl rfl
theorem lk_444 : (Cond.instantiable "BellHeirs$Plans" (11 : Nat)) ∈ aw_all := aw_2 84 rfl rfl
theorem lk_446 : (Cond.instanceMethod ({ cls := "BellHeirs$Plans", name := "<init>", desc := "()V" } : MethodName)) ∈ aw_all := aw_2 86 rfl rfl
theorem lk_447 : (Cond.code ({ cls := "BellHeirs$Plans", name := "<init>", desc := "()V" } : MethodName) prog_6_method_1_code (1 : Nat) (Option.none : Option Jvm.ClassFile.FieldType)) ∈ aw_all := aw_2 87 rfl rfl
theorem lk_448 : (Cond.methodLink "BellHeirs$Plans" (3 : Nat) ({ cls := "java/lang/Object", name := "<init>", desc := "()V" } : MethodName)) ∈ aw_all := aw_2 88 rfl rfl
theorem lk_449 : (Cond.fieldLink "BellHeirs$Plans" (9 : Nat) "BellHeirs$Plans" "walkRow" "[I") ∈ aw_all := aw_2 89 rfl rfl
theorem lk_450 : (Cond.fieldLink "BellHeirs$Plans" (15 : Nat) "BellHeirs$Plans" "stepsAllowed" "I") ∈ aw_all := aw_2 90 rfl rfl
theorem lk_451 : (Cond.fieldLink "BellHeirs$Plans" (19 : Nat) "BellHeirs$Plans" "fewestSteps" "I") ∈ aw_all := aw_2 91 rfl rfl
theorem lk_452 : (Cond.fieldLink "BellHeirs$Plans" (22 : Nat) "BellHeirs$Plans" "visitRow" "[I") ∈ aw_all := aw_2 92 rfl rfl
theorem lk_453 : (Cond.fieldLink "BellHeirs" (297 : Nat) "BellHeirs$Plans" "visitRow" "[I") ∈ aw_all := aw_2 93 rfl rfl
theorem lk_454 : (Cond.fieldLink "BellHeirs$Plans" (25 : Nat) "BellHeirs$Plans" "visited" "I") ∈ aw_all := aw_2 94 rfl rfl
theorem lk_455 : (Cond.fieldLink "BellHeirs" (294 : Nat) "BellHeirs$Plans" "visited" "I") ∈ aw_all := aw_2 95 rfl rfl
theorem lk_456 : (Cond.fieldLink "BellHeirs$Plans" (28 : Nat) "BellHeirs$Plans" "mostWithGivers" "[I") ∈ aw_all := aw_2 96 rfl rfl
theorem lk_457 : (Cond.fieldLink "BellHeirs$Plans" (31 : Nat) "BellHeirs$Plans" "giver" "[I") ∈ aw_all := aw_2 97 rfl rfl
theorem lk_458 : (Cond.fieldLink "BellHeirs" (304 : Nat) "BellHeirs$Plans" "giver" "[I") ∈ aw_all := aw_2 98 rfl rfl
theorem lk_459 : (Cond.fieldLink "BellHeirs$Plans" (34 : Nat) "BellHeirs$Plans" "sale" "[I") ∈ aw_all := aw_2 99 rfl rfl
theorem lk_460 : (Cond.fieldLink "BellHeirs" (387 : Nat) "BellHeirs$Plans" "sale" "[I") ∈ aw_all := aw_2 100 rfl rfl
theorem lk_461 : (Cond.fieldLink "BellHeirs$Plans" (37 : Nat) "BellHeirs$Plans" "toGo" "[I") ∈ aw_all := aw_2 101 rfl rfl
theorem lk_462 : (Cond.fieldLink "BellHeirs$Plans" (40 : Nat) "BellHeirs$Plans" "buyerRow" "[I") ∈ aw_all := aw_2 102 rfl rfl
theorem lk_463 : (Cond.fieldLink "BellHeirs" (356 : Nat) "BellHeirs$Plans" "buyerRow" "[I") ∈ aw_all := aw_2 103 rfl rfl
theorem lk_464 : (Cond.fieldLink "BellHeirs$Plans" (43 : Nat) "BellHeirs$Plans" "buyers" "I") ∈ aw_all := aw_2 104 rfl rfl
theorem lk_465 : (Cond.fieldLink "BellHeirs" (353 : Nat) "BellHeirs$Plans" "buyers" "I") ∈ aw_all := aw_2 105 rfl rfl
theorem lk_489 : (Cond.classLink "BellHeirs" (69 : Nat) "BellHeirs$Shares") ∈ aw_all := aw_2 129 rfl rfl
theorem lk_490 : (Cond.instantiable "BellHeirs$Shares" (5 : Nat)) ∈ aw_all := aw_2 130 rfl rfl
theorem lk_492 : (Cond.instanceMethod ({ cls := "BellHeirs$Shares", name := "<init>", desc := "()V" } : MethodName)) ∈ aw_all := aw_2 132 rfl rfl
theorem lk_493 : (Cond.code ({ cls := "BellHeirs$Shares", name := "<init>", desc := "()V" } : MethodName) prog_9_method_1_code (1 : Nat) (Option.none : Option Jvm.ClassFile.FieldType)) ∈ aw_all := aw_2 133 rfl rfl
theorem lk_494 : (Cond.methodLink "BellHeirs$Shares" (3 : Nat) ({ cls := "java/lang/Object", name := "<init>", desc := "()V" } : MethodName)) ∈ aw_all := aw_2 134 rfl rfl
theorem lk_495 : (Cond.fieldLink "BellHeirs$Shares" (9 : Nat) "BellHeirs$Shares" "got" "[I") ∈ aw_all := aw_2 135 rfl rfl
theorem lk_496 : (Cond.fieldLink "BellHeirs" (335 : Nat) "BellHeirs$Shares" "got" "[I") ∈ aw_all := aw_2 136 rfl rfl
theorem lk_497 : (Cond.fieldLink "BellHeirs$Shares" (15 : Nat) "BellHeirs$Shares" "worth" "[I") ∈ aw_all := aw_2 137 rfl rfl
theorem lk_498 : (Cond.fieldLink "BellHeirs" (338 : Nat) "BellHeirs$Shares" "worth" "[I") ∈ aw_all := aw_2 138 rfl rfl
theorem lk_499 : (Cond.fieldLink "BellHeirs$Shares" (18 : Nat) "BellHeirs$Shares" "usedIn" "[I") ∈ aw_all := aw_2 139 rfl rfl
theorem lk_500 : (Cond.fieldLink "BellHeirs" (344 : Nat) "BellHeirs$Shares" "usedIn" "[I") ∈ aw_all := aw_2 140 rfl rfl
theorem lk_501 : (Cond.fieldLink "BellHeirs$Shares" (21 : Nat) "BellHeirs$Shares" "mostFrom" "[I") ∈ aw_all := aw_2 141 rfl rfl
theorem lk_502 : (Cond.fieldLink "BellHeirs$Shares" (24 : Nat) "BellHeirs$Shares" "chances" "[J") ∈ aw_all := aw_2 142 rfl rfl
theorem lk_514 : (Cond.arrayClass FieldType.long) ∈ aw_all := aw_2 154 rfl rfl
theorem lk_515 : (Cond.fieldLink "BellHeirs" (10 : Nat) "BellHeirs" "town" "LBellHeirs$Suburb;") ∈ aw_all := aw_2 155 rfl rfl
theorem lk_516 : (Cond.fieldLink "BellHeirs" (16 : Nat) "BellHeirs" "paper" "LBellHeirs$Suburb;") ∈ aw_all := aw_2 156 rfl rfl
theorem lk_517 : (Cond.fieldLink "BellHeirs" (19 : Nat) "BellHeirs" "images" "[LBellHeirs$Suburb;") ∈ aw_all := aw_2 157 rfl rfl
theorem lk_518 : (Cond.fieldLink "BellHeirs" (26 : Nat) "BellHeirs" "log" "LBellHeirs$Log;") ∈ aw_all := aw_2 158 rfl rfl
theorem lk_519 : (Cond.fieldLink "BellHeirs" (33 : Nat) "BellHeirs" "tape" "LBellHeirs$Tape;") ∈ aw_all := aw_2 159 rfl rfl
theorem lk_520 : (Cond.fieldLink "BellHeirs" (42 : Nat) "BellHeirs" "reader" "LBellHeirs$Reader;") ∈ aw_all := aw_2 160 rfl rfl
theorem lk_521 : (Cond.fieldLink "BellHeirs" (49 : Nat) "BellHeirs" "asker" "LBellHeirs$Asker;") ∈ aw_all := aw_2 161 rfl rfl
theorem lk_522 : (Cond.fieldLink "BellHeirs" (58 : Nat) "BellHeirs" "deeds" "LBellHeirs$Deeds;") ∈ aw_all := aw_2 162 rfl rfl
theorem lk_523 : (Cond.fieldLink "BellHeirs" (65 : Nat) "BellHeirs" "plans" "LBellHeirs$Plans;") ∈ aw_all := aw_2 163 rfl rfl
theorem lk_524 : (Cond.fieldLink "BellHeirs" (72 : Nat) "BellHeirs" "shares" "LBellHeirs$Shares;") ∈ aw_all := aw_2 164 rfl rfl
theorem lk_525 : (Cond.fieldLink "BellHeirs" (76 : Nat) "BellHeirs" "drawnRights" "[I") ∈ aw_all := aw_2 165 rfl rfl
theorem lk_526 : (Cond.fieldLink "BellHeirs" (80 : Nat) "BellHeirs" "drawnPeople" "I") ∈ aw_all := aw_2 166 rfl rfl
theorem lk_527 : (Cond.fieldLink "BellHeirs" (84 : Nat) "BellHeirs" "drawnHouses" "I") ∈ aw_all := aw_2 167 rfl rfl
theorem lk_528 : (Cond.fieldLink "BellHeirs" (87 : Nat) "BellHeirs" "faultPlace" "I") ∈ aw_all := aw_2 168 rfl rfl
theorem lk_529 : (Cond.fieldLink "BellHeirs" (90 : Nat) "BellHeirs" "stoppedClause" "I") ∈ aw_all := aw_2 169 rfl rfl
theorem lk_530 : (Cond.fieldLink "BellHeirs" (93 : Nat) "BellHeirs" "rustSeen" "I") ∈ aw_all := aw_2 170 rfl rfl
theorem lk_531 : (Cond.fieldLink "BellHeirs" (96 : Nat) "BellHeirs" "refusedBy" "[I") ∈ aw_all := aw_2 171 rfl rfl
theorem lk_532 : (Cond.fieldLink "BellHeirs" (99 : Nat) "BellHeirs" "latestRefusal" "I") ∈ aw_all := aw_2 172 rfl rfl
theorem lk_570 : (Cond.methodLink "BellHeirsLaw" (13 : Nat) ({ cls := "BellHeirs", name := "house", desc := "(II)I" } : MethodName)) ∈ aw_all := aw_2 210 rfl rfl
theorem lk_571 : (Cond.instanceMethod ({ cls := "BellHeirs", name := "house", desc := "(II)I" } : MethodName)) ∈ aw_all := aw_2 211 rfl rfl
theorem lk_572 : (Cond.selects "BellHeirs" ({ cls := "BellHeirs", name := "house", desc := "(II)I" } : MethodName) ({ cls := "BellHeirs", name := "house", desc := "(II)I" } : MethodName)) ∈ aw_all := aw_2 212 rfl rfl
theorem lk_573 : (Cond.code ({ cls := "BellHeirs", name := "house", desc := "(II)I" } : MethodName) prog_1_method_2_code (3 : Nat) (Option.some FieldType.int)) ∈ aw_all := aw_2 213 rfl rfl
theorem lk_574 : (Cond.methodLink "BellHeirs" (102 : Nat) ({ cls := "BellHeirs", name := "isWithin", desc := "(II)Z" } : MethodName)) ∈ aw_all := aw_2 214 rfl rfl
theorem lk_575 : (Cond.static ({ cls := "BellHeirs", name := "isWithin", desc := "(II)Z" } : MethodName)) ∈ aw_all := aw_2 215 rfl rfl
theorem lk_576 : (Cond.code ({ cls := "BellHeirs", name := "isWithin", desc := "(II)Z" } : MethodName) prog_1_method_49_code (2 : Nat) (Option.some FieldType.boolean)) ∈ aw_all := aw_2 216 rfl rfl
theorem lk_577 : (Cond.methodLink "BellHeirs" (106 : Nat) ({ cls := "BellHeirs", name := "refuse", desc := "(I)I" } : MethodName)) ∈ aw_all := aw_2 217 rfl rfl
theorem lk_579 : (Cond.instanceMethod ({ cls := "BellHeirs", name := "refuse", desc := "(I)I" } : MethodName)) ∈ aw_all := aw_2 219 rfl rfl
theorem lk_580 : (Cond.code ({ cls := "BellHeirs", name := "refuse", desc := "(I)I" } : MethodName) prog_1_method_43_code (2 : Nat) (Option.some FieldType.int)) ∈ aw_all := aw_2 220 rfl rfl
theorem lk_581 : (Cond.methodLink "BellHeirs" (113 : Nat) ({ cls := "BellHeirs$Log", name := "clear", desc := "()V" } : MethodName)) ∈ aw_all := aw_2 221 rfl rfl
theorem lk_582 : (Cond.instanceMethod ({ cls := "BellHeirs$Log", name := "clear", desc := "()V" } : MethodName)) ∈ aw_all := aw_2 222 rfl rfl
theorem lk_583 : (Cond.selects "BellHeirs$Log" ({ cls := "BellHeirs$Log", name := "clear", desc := "()V" } : MethodName) ({ cls := "BellHeirs$Log", name := "clear", desc := "()V" } : MethodName)) ∈ aw_all := aw_2 223 rfl rfl
theorem lk_584 : (Cond.code ({ cls := "BellHeirs$Log", name := "clear", desc := "()V" } : MethodName) prog_5_method_4_code (1 : Nat) (Option.none : Option Jvm.ClassFile.FieldType)) ∈ aw_all := aw_2 224 rfl rfl
theorem lk_585 : (Cond.methodLink "BellHeirs" (116 : Nat) ({ cls := "BellHeirs$Suburb", name := "addHouse", desc := "(II)I" } : MethodName)) ∈ aw_all := aw_2 225 rfl rfl
theorem lk_586 : (Cond.instanceMethod ({ cls := "BellHeirs$Suburb", name := "addHouse", desc := "(II)I" } : MethodName)) ∈ aw_all := aw_2 226 rfl rfl
theorem lk_587 : (Cond.selects "BellHeirs$Suburb" ({ cls := "BellHeirs$Suburb", name := "addHouse", desc := "(II)I" } : MethodName) ({ cls := "BellHeirs$Suburb", name := "addHouse", desc := "(II)I" } : MethodName)) ∈ aw_all := aw_2 227 rfl rfl
theorem lk_588 : (Cond.code ({ cls := "BellHeirs$Suburb", name := "addHouse", desc := "(II)I" } : MethodName) prog_10_method_3_code (5 : Nat) (Option.some FieldType.int)) ∈ aw_all := aw_2 228 rfl rfl
theorem lk_590 : (Cond.static ({ cls := "BellHeirs", name := "slot", desc := "(II)I" } : MethodName)) ∈ aw_all := aw_2 230 rfl rfl
theorem lk_591 : (Cond.code ({ cls := "BellHeirs", name := "slot", desc := "(II)I" } : MethodName) prog_1_method_51_code (2 : Nat) (Option.some FieldType.int)) ∈ aw_all := aw_2 231 rfl rfl
theorem lk_592 : (Cond.methodLink "BellHeirs" (120 : Nat) ({ cls := "BellHeirs", name := "accept", desc := "(I)I" } : MethodName)) ∈ aw_all := aw_2 232 rfl rfl
theorem lk_594 : (Cond.instanceMethod ({ cls := "BellHeirs", name := "accept", desc := "(I)I" } : MethodName)) ∈ aw_all := aw_2 234 rfl rfl
theorem lk_595 : (Cond.code ({ cls := "BellHeirs", name := "accept", desc := "(I)I" } : MethodName) prog_1_method_44_code (2 : Nat) (Option.some FieldType.int)) ∈ aw_all := aw_2 235 rfl rfl
theorem lk_596 : (Cond.methodLink "BellHeirsLaw" (18 : Nat) ({ cls := "BellHeirs", name := "at", desc := "(II)I" } : MethodName)) ∈ aw_all := aw_2 236 rfl rfl
theorem lk_597 : (Cond.instanceMethod ({ cls := "BellHeirs", name := "at", desc := "(II)I" } : MethodName)) ∈ aw_all := aw_2 237 rfl rfl
theorem lk_598 : (Cond.selects "BellHeirs" ({ cls := "BellHeirs", name := "at", desc := "(II)I" } : MethodName) ({ cls := "BellHeirs", name := "at", desc := "(II)I" } : MethodName)) ∈ aw_all := aw_2 238 rfl rfl
theorem lk_599 : (Cond.code ({ cls := "BellHeirs", name := "at", desc := "(II)I" } : MethodName) prog_1_method_3_code (3 : Nat) (Option.some FieldType.int)) ∈ aw_all := aw_2 239 rfl rfl
theorem lk_600 : (Cond.methodLink "BellHeirs" (123 : Nat) ({ cls := "BellHeirs$Suburb", name := "hasHouse", desc := "(I)Z" } : MethodName)) ∈ aw_all := aw_3 0 rfl rfl
theorem lk_601 : (Cond.instanceMethod ({ cls := "BellHeirs$Suburb", name := "hasHouse", desc := "(I)Z" } : MethodName)) ∈ aw_all := aw_3 1 rfl rfl
theorem lk_602 : (Cond.selects "BellHeirs$Suburb" ({ cls := "BellHeirs$Suburb", name := "hasHouse", desc := "(I)Z" } : MethodName) ({ cls := "BellHeirs$Suburb", name := "hasHouse", desc := "(I)Z" } : MethodName)) ∈ aw_all := aw_3 2 rfl rfl
theorem lk_603 : (Cond.code ({ cls := "BellHeirs$Suburb", name := "hasHouse", desc := "(I)Z" } : MethodName) prog_10_method_7_code (2 : Nat) (Option.some FieldType.boolean)) ∈ aw_all := aw_3 3 rfl rfl
theorem lk_604 : (Cond.methodLink "BellHeirs" (142 : Nat) ({ cls := "BellHeirs$Suburb", name := "allRightsTo", desc := "(I)I" } : MethodName)) ∈ aw_all := aw_3 4 rfl rfl
theorem lk_605 : (Cond.instanceMethod ({ cls := "BellHeirs$Suburb", name := "allRightsTo", desc := "(I)I" } : MethodName)) ∈ aw_all := aw_3 5 rfl rfl
theorem lk_606 : (Cond.selects "BellHeirs$Suburb" ({ cls := "BellHeirs$Suburb", name := "allRightsTo", desc := "(I)I" } : MethodName) ({ cls := "BellHeirs$Suburb", name := "allRightsTo", desc := "(I)I" } : MethodName)) ∈ aw_all := aw_3 6 rfl rfl
theorem lk_607 : (Cond.code ({ cls := "BellHeirs$Suburb", name := "allRightsTo", desc := "(I)I" } : MethodName) prog_10_method_14_code (4 : Nat) (Option.some FieldType.int)) ∈ aw_all := aw_3 7 rfl rfl
theorem lk_608 : (Cond.methodLink "BellHeirs$Suburb" (114 : Nat) ({ cls := "BellHeirs$Suburb", name := "rightsOf", desc := "(II)I" } : MethodName)) ∈ aw_all := aw_3 8 rfl rfl
theorem lk_609 : (Cond.instanceMethod ({ cls := "BellHeirs$Suburb", name := "rightsOf", desc := "(II)I" } : MethodName)) ∈ aw_all := aw_3 9 rfl rfl
theorem lk_610 : (Cond.selects "BellHeirs$Suburb" ({ cls := "BellHeirs$Suburb", name := "rightsOf", desc := "(II)I" } : MethodName) ({ cls := "BellHeirs$Suburb", name := "rightsOf", desc := "(II)I" } : MethodName)) ∈ aw_all := aw_3 10 rfl rfl
theorem lk_611 : (Cond.code ({ cls := "BellHeirs$Suburb", name := "rightsOf", desc := "(II)I" } : MethodName) prog_10_method_10_code (3 : Nat) (Option.some FieldType.int)) ∈ aw_all := aw_3 11 rfl rfl
theorem lk_612 : (Cond.methodLink "BellHeirs$Suburb" (100 : Nat) ({ cls := "BellHeirs$Suburb", name := "hasPerson", desc := "(I)Z" } : MethodName)) ∈ aw_all := aw_3 12 rfl rfl
theorem lk_613 : (Cond.instanceMethod ({ cls := "BellHeirs$Suburb", name := "hasPerson", desc := "(I)Z" } : MethodName)) ∈ aw_all := aw_3 13 rfl rfl
theorem lk_614 : (Cond.selects "BellHeirs$Suburb" ({ cls := "BellHeirs$Suburb", name := "hasPerson", desc := "(I)Z" } : MethodName) ({ cls := "BellHeirs$Suburb", name := "hasPerson", desc := "(I)Z" } : MethodName)) ∈ aw_all := aw_3 14 rfl rfl
theorem lk_615 : (Cond.code ({ cls := "BellHeirs$Suburb", name := "hasPerson", desc := "(I)Z" } : MethodName) prog_10_method_8_code (2 : Nat) (Option.some FieldType.boolean)) ∈ aw_all := aw_3 15 rfl rfl
theorem lk_616 : (Cond.methodLink "BellHeirs$Suburb" (108 : Nat) ({ cls := "BellHeirs$Suburb", name := "hasHouse", desc := "(I)Z" } : MethodName)) ∈ aw_all := aw_3 16 rfl rfl
theorem lk_617 : (Cond.methodLink "BellHeirs" (148 : Nat) ({ cls := "BellHeirs$Asker", name := "worthIn", desc := "(LBellHeirs$Suburb;II)I" } : MethodName)) ∈ aw_all := aw_3 17 rfl rfl
theorem lk_618 : (Cond.instanceMethod ({ cls := "BellHeirs$Asker", name := "worthIn", desc := "(LBellHeirs$Suburb;II)I" } : MethodName)) ∈ aw_all := aw_3 18 rfl rfl
theorem lk_619 : (Cond.selects "BellHeirs$Asker" ({ cls := "BellHeirs$Asker", name := "worthIn", desc := "(LBellHeirs$Suburb;II)I" } : MethodName) ({ cls := "BellHeirs$Asker", name := "worthIn", desc := "(LBellHeirs$Suburb;II)I" } : MethodName)) ∈ aw_all := aw_3 19 rfl rfl
theorem lk_620 : (Cond.code ({ cls := "BellHeirs$Asker", name := "worthIn", desc := "(LBellHeirs$Suburb;II)I" } : MethodName) prog_2_method_4_code (4 : Nat) (Option.some FieldType.int)) ∈ aw_all := aw_3 20 rfl rfl
theorem lk_621 : (Cond.methodLink "BellHeirs$Asker" (22 : Nat) ({ cls := "BellHeirs$Asker", name := "setWords", desc := "(LBellHeirs$Suburb;III)V" } : MethodName)) ∈ aw_all := aw_3 21 rfl rfl
theorem lk_623 : (Cond.instanceMethod ({ cls := "BellHeirs$Asker", name := "setWords", desc := "(LBellHeirs$Suburb;III)V" } : MethodName)) ∈ aw_all := aw_3 23 rfl rfl
theorem lk_624 : (Cond.code ({ cls := "BellHeirs$Asker", name := "setWords", desc := "(LBellHeirs$Suburb;III)V" } : MethodName) prog_2_method_7_code (6 : Nat) (Option.none : Option Jvm.ClassFile.FieldType)) ∈ aw_all := aw_3 24 rfl rfl
theorem lk_625 : (Cond.methodLink "BellHeirs$Asker" (58 : Nat) ({ cls := "BellHeirs$Suburb", name := "hasPerson", desc := "(I)Z" } : MethodName)) ∈ aw_all := aw_3 25 rfl rfl
theorem lk_626 : (Cond.methodLink "BellHeirs$Asker" (42 : Nat) ({ cls := "BellHeirs$Suburb", name := "hasHouse", desc := "(I)Z" } : MethodName)) ∈ aw_all := aw_3 26 rfl rfl
theorem lk_627 : (Cond.methodLink "BellHeirs$Asker" (67 : Nat) ({ cls := "BellHeirs$Suburb", name := "leftOf", desc := "(II)I" } : MethodName)) ∈ aw_all := aw_3 27 rfl rfl
theorem lk_628 : (Cond.instanceMethod ({ cls := "BellHeirs$Suburb", name := "leftOf", desc := "(II)I" } : MethodName)) ∈ aw_all := aw_3 28 rfl rfl
theorem lk_629 : (Cond.selects "BellHeirs$Suburb" ({ cls := "BellHeirs$Suburb", name := "leftOf", desc := "(II)I" } : MethodName) ({ cls := "BellHeirs$Suburb", name := "leftOf", desc := "(II)I" } : MethodName)) ∈ aw_all := aw_3 29 rfl rfl
theorem lk_630 : (Cond.code ({ cls := "BellHeirs$Suburb", name := "leftOf", desc := "(II)I" } : MethodName) prog_10_method_12_code (3 : Nat) (Option.some FieldType.int)) ∈ aw_all := aw_3 30 rfl rfl
theorem lk_631 : (Cond.methodLink "BellHeirs$Asker" (26 : Nat) ({ cls := "BellHeirs$Suburb", name := "lawInForce", desc := "()LBellHeirs$Text;" } : MethodName)) ∈ aw_all := aw_3 31 rfl rfl
theorem lk_632 : (Cond.instanceMethod ({ cls := "BellHeirs$Suburb", name := "lawInForce", desc := "()LBellHeirs$Text;" } : MethodName)) ∈ aw_all := aw_3 32 rfl rfl
theorem lk_633 : (Cond.selects "BellHeirs$Suburb" ({ cls := "BellHeirs$Suburb", name := "lawInForce", desc := "()LBellHeirs$Text;" } : MethodName) ({ cls := "BellHeirs$Suburb", name := "lawInForce", desc := "()LBellHeirs$Text;" } : MethodName)) ∈ aw_all := aw_3 33 rfl rfl
theorem lk_634 : (Cond.code ({ cls := "BellHeirs$Suburb", name := "lawInForce", desc := "()LBellHeirs$Text;" } : MethodName) prog_10_method_6_code (1 : Nat) (Option.some (FieldType.object "BellHeirs$Text"))) ∈ aw_all := aw_3 34 rfl rfl
theorem lk_635 : (Cond.methodLink "BellHeirs$Asker" (32 : Nat) ({ cls := "BellHeirs$Asker", name := "lastTold", desc := "(LBellHeirs$Text;I)I" } : MethodName)) ∈ aw_all := aw_3 35 rfl rfl
theorem lk_637 : (Cond.instanceMethod ({ cls := "BellHeirs$Asker", name := "lastTold", desc := "(LBellHeirs$Text;I)I" } : MethodName)) ∈ aw_all := aw_3 37 rfl rfl
theorem lk_638 : (Cond.code ({ cls := "BellHeirs$Asker", name := "lastTold", desc := "(LBellHeirs$Text;I)I" } : MethodName) prog_2_method_8_code (6 : Nat) (Option.some FieldType.int)) ∈ aw_all := aw_3 38 rfl rfl
theorem lk_639 : (Cond.methodLink "BellHeirs$Asker" (84 : Nat) ({ cls := "BellHeirs$Scale", name := "weigh", desc := "(LBellHeirs$Text;II[I)I" } : MethodName)) ∈ aw_all := aw_3 39 rfl rfl
theorem lk_640 : (Cond.instanceMethod ({ cls := "BellHeirs$Scale", name := "weigh", desc := "(LBellHeirs$Text;II[I)I" } : MethodName)) ∈ aw_all := aw_3 40 rfl rfl
theorem lk_641 : (Cond.selects "BellHeirs$Scale" ({ cls := "BellHeirs$Scale", name := "weigh", desc := "(LBellHeirs$Text;II[I)I" } : MethodName) ({ cls := "BellHeirs$Scale", name := "weigh", desc := "(LBellHeirs$Text;II[I)I" } : MethodName)) ∈ aw_all := aw_3 41 rfl rfl
theorem lk_642 : (Cond.code ({ cls := "BellHeirs$Scale", name := "weigh", desc := "(LBellHeirs$Text;II[I)I" } : MethodName) prog_8_method_2_code (12 : Nat) (Option.some FieldType.int)) ∈ aw_all := aw_3 42 rfl rfl
theorem lk_643 : (Cond.constant "BellHeirs$Scale" (21 : Nat) (2000000000 : Int32)) ∈ aw_all := aw_3 43 rfl rfl
theorem lk_644 : (Cond.methodLink "BellHeirs$Scale" (31 : Nat) ({ cls := "java/lang/Math", name := "max", desc := "(II)I" } : MethodName)) ∈ aw_all := aw_3 44 rfl rfl
theorem lk_645 : (Cond.static ({ cls := "java/lang/Math", name := "max", desc := "(II)I" } : MethodName)) ∈ aw_all := aw_3 45 rfl rfl
theorem lk_646 : (Cond.code ({ cls := "java/lang/Math", name := "max", desc := "(II)I" } : MethodName) prog_16_method_65_code (2 : Nat) (Option.some FieldType.int)) ∈ aw_all := aw_3 46 rfl rfl
theorem lk_647 : (Cond.methodLink "BellHeirs$Scale" (37 : Nat) ({ cls := "BellHeirs$Scale", name := "reckon", desc := "(III)I" } : MethodName)) ∈ aw_all := aw_3 47 rfl rfl
theorem lk_648 : (Cond.static ({ cls := "BellHeirs$Scale", name := "reckon", desc := "(III)I" } : MethodName)) ∈ aw_all := aw_3 48 rfl rfl
theorem lk_649 : (Cond.code ({ cls := "BellHeirs$Scale", name := "reckon", desc := "(III)I" } : MethodName) prog_8_method_3_code (5 : Nat) (Option.some FieldType.int)) ∈ aw_all := aw_3 49 rfl rfl
theorem lk_650 : (Cond.constantLong "BellHeirs$Scale" (41 : Nat) (2000000000 : Int64)) ∈ aw_all := aw_3 50 rfl rfl
theorem lk_651 : (Cond.constantLong "BellHeirs$Scale" (43 : Nat) (1000000000 : Int64)) ∈ aw_all := aw_3 51 rfl rfl
theorem lk_652 : (Cond.constantLong "BellHeirs$Scale" (45 : Nat) (-1000000000 : Int64)) ∈ aw_all := aw_3 52 rfl rfl
theorem lk_653 : (Cond.constant "BellHeirs$Asker" (88 : Nat) (2000000000 : Int32)) ∈ aw_all := aw_3 53 rfl rfl
theorem lk_654 : (Cond.fieldLink "BellHeirs$Asker" (89 : Nat) "BellHeirs$Asker" "AT_MOST" "[I") ∈ aw_all := aw_3 54 rfl rfl
theorem lk_656 : (Cond.methodLink "BellHeirs$Asker" (92 : Nat) ({ cls := "java/lang/Math", name := "min", desc := "(II)I" } : MethodName)) ∈ aw_all := aw_3 56 rfl rfl
theorem lk_657 : (Cond.static ({ cls := "java/lang/Math", name := "min", desc := "(II)I" } : MethodName)) ∈ aw_all := aw_3 57 rfl rfl
theorem lk_658 : (Cond.code ({ cls := "java/lang/Math", name := "min", desc := "(II)I" } : MethodName) prog_16_method_69_code (2 : Nat) (Option.some FieldType.int)) ∈ aw_all := aw_3 58 rfl rfl
theorem lk_659 : (Cond.methodLink "BellHeirs$Asker" (97 : Nat) ({ cls := "java/lang/Math", name := "max", desc := "(II)I" } : MethodName)) ∈ aw_all := aw_3 59 rfl rfl
theorem lk_660 : (Cond.fieldLink "BellHeirs$Asker" (100 : Nat) "BellHeirs$Asker" "WITHOUT" "[I") ∈ aw_all := aw_3 60 rfl rfl
theorem lk_662 : (Cond.methodLink "BellHeirsLaw" (22 : Nat) ({ cls := "BellHeirs", name := "person", desc := "(III)I" } : MethodName)) ∈ aw_all := aw_3 62 rfl rfl
theorem lk_663 : (Cond.instanceMethod ({ cls := "BellHeirs", name := "person", desc := "(III)I" } : MethodName)) ∈ aw_all := aw_3 63 rfl rfl
theorem lk_664 : (Cond.selects "BellHeirs" ({ cls := "BellHeirs", name := "person", desc := "(III)I" } : MethodName) ({ cls := "BellHeirs", name := "person", desc := "(III)I" } : MethodName)) ∈ aw_all := aw_3 64 rfl rfl
theorem lk_665 : (Cond.code ({ cls := "BellHeirs", name := "person", desc := "(III)I" } : MethodName) prog_1_method_4_code (4 : Nat) (Option.some FieldType.int)) ∈ aw_all := aw_3 65 rfl rfl
theorem lk_666 : (Cond.methodLink "BellHeirs" (155 : Nat) ({ cls := "BellHeirs$Suburb", name := "addPerson", desc := "(III)I" } : MethodName)) ∈ aw_all := aw_3 66 rfl rfl
theorem lk_667 : (Cond.instanceMethod ({ cls := "BellHeirs$Suburb", name := "addPerson", desc := "(III)I" } : MethodName)) ∈ aw_all := aw_3 67 rfl rfl
theorem lk_668 : (Cond.selects "BellHeirs$Suburb" ({ cls := "BellHeirs$Suburb", name := "addPerson", desc := "(III)I" } : MethodName) ({ cls := "BellHeirs$Suburb", name := "addPerson", desc := "(III)I" } : MethodName)) ∈ aw_all := aw_3 68 rfl rfl
theorem lk_669 : (Cond.code ({ cls := "BellHeirs$Suburb", name := "addPerson", desc := "(III)I" } : MethodName) prog_10_method_4_code (6 : Nat) (Option.some FieldType.int)) ∈ aw_all := aw_3 69 rfl rfl
theorem lk_670 : (Cond.methodLink "BellHeirsLaw" (27 : Nat) ({ cls := "BellHeirs", name := "of", desc := "(II)I" } : MethodName)) ∈ aw_all := aw_3 70 rfl rfl
theorem lk_671 : (Cond.instanceMethod ({ cls := "BellHeirs", name := "of", desc := "(II)I" } : MethodName)) ∈ aw_all := aw_3 71 rfl rfl
theorem lk_672 : (Cond.selects "BellHeirs" ({ cls := "BellHeirs", name := "of", desc := "(II)I" } : MethodName) ({ cls := "BellHeirs", name := "of", desc := "(II)I" } : MethodName)) ∈ aw_all := aw_3 72 rfl rfl
theorem lk_673 : (Cond.code ({ cls := "BellHeirs", name := "of", desc := "(II)I" } : MethodName) prog_1_method_5_code (3 : Nat) (Option.some FieldType.int)) ∈ aw_all := aw_3 73 rfl rfl
theorem lk_674 : (Cond.methodLink "BellHeirs" (159 : Nat) ({ cls := "BellHeirs$Suburb", name := "hasPerson", desc := "(I)Z" } : MethodName)) ∈ aw_all := aw_3 74 rfl rfl
theorem lk_675 : (Cond.methodLink "BellHeirs" (177 : Nat) ({ cls := "BellHeirs$Suburb", name := "lives", desc := "(I)Z" } : MethodName)) ∈ aw_all := aw_3 75 rfl rfl
theorem lk_676 : (Cond.instanceMethod ({ cls := "BellHeirs$Suburb", name := "lives", desc := "(I)Z" } : MethodName)) ∈ aw_all := aw_3 76 rfl rfl
theorem lk_677 : (Cond.selects "BellHeirs$Suburb" ({ cls := "BellHeirs$Suburb", name := "lives", desc := "(I)Z" } : MethodName) ({ cls := "BellHeirs$Suburb", name := "lives", desc := "(I)Z" } : MethodName)) ∈ aw_all := aw_3 77 rfl rfl
theorem lk_678 : (Cond.code ({ cls := "BellHeirs$Suburb", name := "lives", desc := "(I)Z" } : MethodName) prog_10_method_9_code (2 : Nat) (Option.some FieldType.boolean)) ∈ aw_all := aw_3 78 rfl rfl
theorem lk_680 : (Cond.static ({ cls := "BellHeirs", name := "hasBit", desc := "(II)Z" } : MethodName)) ∈ aw_all := aw_3 80 rfl rfl
theorem lk_681 : (Cond.code ({ cls := "BellHeirs", name := "hasBit", desc := "(II)Z" } : MethodName) prog_1_method_50_code (2 : Nat) (Option.some FieldType.boolean)) ∈ aw_all := aw_3 81 rfl rfl
theorem lk_682 : (Cond.methodLink "BellHeirsLaw" (31 : Nat) ({ cls := "BellHeirs", name := "want", desc := "(II)I" } : MethodName)) ∈ aw_all := aw_3 82 rfl rfl
theorem lk_683 : (Cond.instanceMethod ({ cls := "BellHeirs", name := "want", desc := "(II)I" } : MethodName)) ∈ aw_all := aw_3 83 rfl rfl
theorem lk_684 : (Cond.selects "BellHeirs" ({ cls := "BellHeirs", name := "want", desc := "(II)I" } : MethodName) ({ cls := "BellHeirs", name := "want", desc := "(II)I" } : MethodName)) ∈ aw_all := aw_3 84 rfl rfl
theorem lk_685 : (Cond.code ({ cls := "BellHeirs", name := "want", desc := "(II)I" } : MethodName) prog_1_method_6_code (3 : Nat) (Option.some FieldType.int)) ∈ aw_all := aw_3 85 rfl rfl
theorem lk_686 : (Cond.methodLink "BellHeirsLaw" (35 : Nat) ({ cls := "BellHeirs", name := "will", desc := "(II)I" } : MethodName)) ∈ aw_all := aw_3 86 rfl rfl
theorem lk_687 : (Cond.instanceMethod ({ cls := "BellHeirs", name := "will", desc := "(II)I" } : MethodName)) ∈ aw_all := aw_3 87 rfl rfl
theorem lk_688 : (Cond.selects "BellHeirs" ({ cls := "BellHeirs", name := "will", desc := "(II)I" } : MethodName) ({ cls := "BellHeirs", name := "will", desc := "(II)I" } : MethodName)) ∈ aw_all := aw_3 88 rfl rfl
theorem lk_689 : (Cond.code ({ cls := "BellHeirs", name := "will", desc := "(II)I" } : MethodName) prog_1_method_7_code (6 : Nat) (Option.some FieldType.int)) ∈ aw_all := aw_3 89 rfl rfl
theorem lk_690 : (Cond.methodLink "BellHeirs" (180 : Nat) ({ cls := "BellHeirs", name := "hasBit", desc := "(II)Z" } : MethodName)) ∈ aw_all := aw_3 90 rfl rfl
theorem lk_691 : (Cond.methodLink "BellHeirsLaw" (39 : Nat) ({ cls := "BellHeirs", name := "right", desc := "(III)I" } : MethodName)) ∈ aw_all := aw_3 91 rfl rfl
theorem lk_692 : (Cond.instanceMethod ({ cls := "BellHeirs", name := "right", desc := "(III)I" } : MethodName)) ∈ aw_all := aw_3 92 rfl rfl
theorem lk_693 : (Cond.selects "BellHeirs" ({ cls := "BellHeirs", name := "right", desc := "(III)I" } : MethodName) ({ cls := "BellHeirs", name := "right", desc := "(III)I" } : MethodName)) ∈ aw_all := aw_3 93 rfl rfl
theorem lk_694 : (Cond.code ({ cls := "BellHeirs", name := "right", desc := "(III)I" } : MethodName) prog_1_method_8_code (5 : Nat) (Option.some FieldType.int)) ∈ aw_all := aw_3 94 rfl rfl
theorem lk_695 : (Cond.methodLink "BellHeirs" (183 : Nat) ({ cls := "BellHeirs$Suburb", name := "usedOf", desc := "(II)I" } : MethodName)) ∈ aw_all := aw_3 95 rfl rfl
theorem lk_696 : (Cond.instanceMethod ({ cls := "BellHeirs$Suburb", name := "usedOf", desc := "(II)I" } : MethodName)) ∈ aw_all := aw_3 96 rfl rfl
theorem lk_697 : (Cond.selects "BellHeirs$Suburb" ({ cls := "BellHeirs$Suburb", name := "usedOf", desc := "(II)I" } : MethodName) ({ cls := "BellHeirs$Suburb", name := "usedOf", desc := "(II)I" } : MethodName)) ∈ aw_all := aw_3 97 rfl rfl
theorem lk_698 : (Cond.code ({ cls := "BellHeirs$Suburb", name := "usedOf", desc := "(II)I" } : MethodName) prog_10_method_11_code (3 : Nat) (Option.some FieldType.int)) ∈ aw_all := aw_3 98 rfl rfl
theorem lk_699 : (Cond.methodLink "BellHeirs" (186 : Nat) ({ cls := "BellHeirs$Suburb", name := "rightsOf", desc := "(II)I" } : MethodName)) ∈ aw_all := aw_3 99 rfl rfl
theorem lk_700 : (Cond.methodLink "BellHeirs" (192 : Nat) ({ cls := "BellHeirs", name := "slot", desc := "(II)I" } : MethodName)) ∈ aw_all := aw_3 100 rfl rfl
theorem lk_701 : (Cond.methodLink "BellHeirsLaw" (43 : Nat) ({ cls := "BellHeirs", name := "has", desc := "(III)I" } : MethodName)) ∈ aw_all := aw_3 101 rfl rfl
theorem lk_702 : (Cond.instanceMethod ({ cls := "BellHeirs", name := "has", desc := "(III)I" } : MethodName)) ∈ aw_all := aw_3 102 rfl rfl
theorem lk_703 : (Cond.selects "BellHeirs" ({ cls := "BellHeirs", name := "has", desc := "(III)I" } : MethodName) ({ cls := "BellHeirs", name := "has", desc := "(III)I" } : MethodName)) ∈ aw_all := aw_3 103 rfl rfl
theorem lk_704 : (Cond.code ({ cls := "BellHeirs", name := "has", desc := "(III)I" } : MethodName) prog_1_method_9_code (4 : Nat) (Option.some FieldType.int)) ∈ aw_all := aw_3 104 rfl rfl
theorem lk_705 : (Cond.methodLink "BellHeirs" (195 : Nat) ({ cls := "BellHeirs$Suburb", name := "leftOf", desc := "(II)I" } : MethodName)) ∈ aw_all := aw_3 105 rfl rfl
theorem lk_706 : (Cond.methodLink "BellHeirs" (198 : Nat) ({ cls := "BellHeirs$Asker", name := "opensTo", desc := "(LBellHeirs$Suburb;II)Z" } : MethodName)) ∈ aw_all := aw_3 106 rfl rfl
theorem lk_707 : (Cond.instanceMethod ({ cls := "BellHeirs$Asker", name := "opensTo", desc := "(LBellHeirs$Suburb;II)Z" } : MethodName)) ∈ aw_all := aw_3 107 rfl rfl
theorem lk_708 : (Cond.selects "BellHeirs$Asker" ({ cls := "BellHeirs$Asker", name := "opensTo", desc := "(LBellHeirs$Suburb;II)Z" } : MethodName) ({ cls := "BellHeirs$Asker", name := "opensTo", desc := "(LBellHeirs$Suburb;II)Z" } : MethodName)) ∈ aw_all := aw_3 108 rfl rfl
theorem lk_709 : (Cond.code ({ cls := "BellHeirs$Asker", name := "opensTo", desc := "(LBellHeirs$Suburb;II)Z" } : MethodName) prog_2_method_5_code (5 : Nat) (Option.some FieldType.boolean)) ∈ aw_all := aw_3 109 rfl rfl
theorem lk_710 : (Cond.methodLink "BellHeirs$Asker" (36 : Nat) ({ cls := "BellHeirs$Text", name := "hasKind", desc := "(I)Z" } : MethodName)) ∈ aw_all := aw_3 110 rfl rfl
theorem lk_711 : (Cond.instanceMethod ({ cls := "BellHeirs$Text", name := "hasKind", desc := "(I)Z" } : MethodName)) ∈ aw_all := aw_3 111 rfl rfl
theorem lk_712 : (Cond.selects "BellHeirs$Text" ({ cls := "BellHeirs$Text", name := "hasKind", desc := "(I)Z" } : MethodName) ({ cls := "BellHeirs$Text", name := "hasKind", desc := "(I)Z" } : MethodName)) ∈ aw_all := aw_3 112 rfl rfl
theorem lk_713 : (Cond.code ({ cls := "BellHeirs$Text", name := "hasKind", desc := "(I)Z" } : MethodName) prog_12_method_9_code (3 : Nat) (Option.some FieldType.boolean)) ∈ aw_all := aw_3 113 rfl rfl
theorem lk_714 : (Cond.methodLink "BellHeirs$Asker" (54 : Nat) ({ cls := "BellHeirs$Asker", name := "someHolds", desc := "(LBellHeirs$Text;I)Z" } : MethodName)) ∈ aw_all := aw_3 114 rfl rfl
theorem lk_716 : (Cond.instanceMethod ({ cls := "BellHeirs$Asker", name := "someHolds", desc := "(LBellHeirs$Text;I)Z" } : MethodName)) ∈ aw_all := aw_3 116 rfl rfl
theorem lk_717 : (Cond.code ({ cls := "BellHeirs$Asker", name := "someHolds", desc := "(LBellHeirs$Text;I)Z" } : MethodName) prog_2_method_9_code (5 : Nat) (Option.some FieldType.boolean)) ∈ aw_all := aw_3 117 rfl rfl
theorem lk_718 : (Cond.methodLink "BellHeirs" (202 : Nat) ({ cls := "BellHeirs$Asker", name := "tiring", desc := "(LBellHeirs$Suburb;II)I" } : MethodName)) ∈ aw_all := aw_3 118 rfl rfl
theorem lk_719 : (Cond.instanceMethod ({ cls := "BellHeirs$Asker", name := "tiring", desc := "(LBellHeirs$Suburb;II)I" } : MethodName)) ∈ aw_all := aw_3 119 rfl rfl
theorem lk_720 : (Cond.selects "BellHeirs$Asker" ({ cls := "BellHeirs$Asker", name := "tiring", desc := "(LBellHeirs$Suburb;II)I" } : MethodName) ({ cls := "BellHeirs$Asker", name := "tiring", desc := "(LBellHeirs$Suburb;II)I" } : MethodName)) ∈ aw_all := aw_3 120 rfl rfl
theorem lk_721 : (Cond.code ({ cls := "BellHeirs$Asker", name := "tiring", desc := "(LBellHeirs$Suburb;II)I" } : MethodName) prog_2_method_2_code (4 : Nat) (Option.some FieldType.int)) ∈ aw_all := aw_3 121 rfl rfl
theorem lk_722 : (Cond.methodLink "BellHeirsLaw" (47 : Nat) ({ cls := "BellHeirs", name := "asks", desc := "(IIII)I" } : MethodName)) ∈ aw_all := aw_3 122 rfl rfl
theorem lk_723 : (Cond.instanceMethod ({ cls := "BellHeirs", name := "asks", desc := "(IIII)I" } : MethodName)) ∈ aw_all := aw_3 123 rfl rfl
theorem lk_724 : (Cond.selects "BellHeirs" ({ cls := "BellHeirs", name := "asks", desc := "(IIII)I" } : MethodName) ({ cls := "BellHeirs", name := "asks", desc := "(IIII)I" } : MethodName)) ∈ aw_all := aw_3 124 rfl rfl
theorem lk_725 : (Cond.code ({ cls := "BellHeirs", name := "asks", desc := "(IIII)I" } : MethodName) prog_1_method_10_code (5 : Nat) (Option.some FieldType.int)) ∈ aw_all := aw_3 125 rfl rfl
theorem lk_726 : (Cond.methodLink "BellHeirs" (205 : Nat) ({ cls := "BellHeirs$Asker", name := "price", desc := "(LBellHeirs$Suburb;III)I" } : MethodName)) ∈ aw_all := aw_3 126 rfl rfl
theorem lk_727 : (Cond.instanceMethod ({ cls := "BellHeirs$Asker", name := "price", desc := "(LBellHeirs$Suburb;III)I" } : MethodName)) ∈ aw_all := aw_3 127 rfl rfl
theorem lk_728 : (Cond.selects "BellHeirs$Asker" ({ cls := "BellHeirs$Asker", name := "price", desc := "(LBellHeirs$Suburb;III)I" } : MethodName) ({ cls := "BellHeirs$Asker", name := "price", desc := "(LBellHeirs$Suburb;III)I" } : MethodName)) ∈ aw_all := aw_3 128 rfl rfl
theorem lk_729 : (Cond.code ({ cls := "BellHeirs$Asker", name := "price", desc := "(LBellHeirs$Suburb;III)I" } : MethodName) prog_2_method_3_code (5 : Nat) (Option.some FieldType.int)) ∈ aw_all := aw_3 129 rfl rfl
theorem lk_730 : (Cond.methodLink "BellHeirs" (209 : Nat) ({ cls := "BellHeirs$Asker", name := "isBarred", desc := "(LBellHeirs$Suburb;III)Z" } : MethodName)) ∈ aw_all := aw_3 130 rfl rfl
theorem lk_731 : (Cond.instanceMethod ({ cls := "BellHeirs$Asker", name := "isBarred", desc := "(LBellHeirs$Suburb;III)Z" } : MethodName)) ∈ aw_all := aw_3 131 rfl rfl
theorem lk_732 : (Cond.selects "BellHeirs$Asker" ({ cls := "BellHeirs$Asker", name := "isBarred", desc := "(LBellHeirs$Suburb;III)Z" } : MethodName) ({ cls := "BellHeirs$Asker", name := "isBarred", desc := "(LBellHeirs$Suburb;III)Z" } : MethodName)) ∈ aw_all := aw_3 132 rfl rfl
theorem lk_733 : (Cond.code ({ cls := "BellHeirs$Asker", name := "isBarred", desc := "(LBellHeirs$Suburb;III)Z" } : MethodName) prog_2_method_6_code (5 : Nat) (Option.some FieldType.boolean)) ∈ aw_all := aw_3 133 rfl rfl
theorem lk_734 : (Cond.methodLink "BellHeirs" (213 : Nat) ({ cls := "BellHeirs", name := "canSell", desc := "(III)Z" } : MethodName)) ∈ aw_all := aw_3 134 rfl rfl
theorem lk_736 : (Cond.instanceMethod ({ cls := "BellHeirs", name := "canSell", desc := "(III)Z" } : MethodName)) ∈ aw_all := aw_3 136 rfl rfl
theorem lk_737 : (Cond.code ({ cls := "BellHeirs", name := "canSell", desc := "(III)Z" } : MethodName) prog_1_method_47_code (4 : Nat) (Option.some FieldType.boolean)) ∈ aw_all := aw_3 137 rfl rfl
theorem lk_738 : (Cond.methodLink "BellHeirs" (384 : Nat) ({ cls := "BellHeirs$Deeds", name := "canBuy", desc := "(LBellHeirs$Suburb;III)Z" } : MethodName)) ∈ aw_all := aw_3 138 rfl rfl
theorem lk_739 : (Cond.instanceMethod ({ cls := "BellHeirs$Deeds", name := "canBuy", desc := "(LBellHeirs$Suburb;III)Z" } : MethodName)) ∈ aw_all := aw_3 139 rfl rfl
theorem lk_740 : (Cond.selects "BellHeirs$Deeds" ({ cls := "BellHeirs$Deeds", name := "canBuy", desc := "(LBellHeirs$Suburb;III)Z" } : MethodName) ({ cls := "BellHeirs$Deeds", name := "canBuy", desc := "(LBellHeirs$Suburb;III)Z" } : MethodName)) ∈ aw_all := aw_3 140 rfl rfl
theorem lk_741 : (Cond.code ({ cls := "BellHeirs$Deeds", name := "canBuy", desc := "(LBellHeirs$Suburb;III)Z" } : MethodName) prog_3_method_4_code (5 : Nat) (Option.some FieldType.boolean)) ∈ aw_all := aw_3 141 rfl rfl
theorem lk_742 : (Cond.methodLink "BellHeirs$Deeds" (45 : Nat) ({ cls := "BellHeirs$Suburb", name := "lives", desc := "(I)Z" } : MethodName)) ∈ aw_all := aw_3 142 rfl rfl
theorem lk_743 : (Cond.methodLink "BellHeirs$Deeds" (100 : Nat) ({ cls := "BellHeirs$Suburb", name := "rightsOf", desc := "(II)I" } : MethodName)) ∈ aw_all := aw_3 143 rfl rfl
theorem lk_744 : (Cond.methodLink "BellHeirs$Deeds" (103 : Nat) ({ cls := "BellHeirs$Asker", name := "isBarred", desc := "(LBellHeirs$Suburb;III)Z" } : MethodName)) ∈ aw_all := aw_3 144 rfl rfl
theorem lk_745 : (Cond.methodLink "BellHeirs$Deeds" (90 : Nat) ({ cls := "BellHeirs$Asker", name := "price", desc := "(LBellHeirs$Suburb;III)I" } : MethodName)) ∈ aw_all := aw_3 145 rfl rfl
theorem lk_746 : (Cond.methodLink "BellHeirsLaw" (52 : Nat) ({ cls := "BellHeirs", name := "terms", desc := "(II)I" } : MethodName)) ∈ aw_all := aw_3 146 rfl rfl
theorem lk_747 : (Cond.instanceMethod ({ cls := "BellHeirs", name := "terms", desc := "(II)I" } : MethodName)) ∈ aw_all := aw_3 147 rfl rfl
theorem lk_748 : (Cond.selects "BellHeirs" ({ cls := "BellHeirs", name := "terms", desc := "(II)I" } : MethodName) ({ cls := "BellHeirs", name := "terms", desc := "(II)I" } : MethodName)) ∈ aw_all := aw_3 148 rfl rfl
theorem lk_749 : (Cond.code ({ cls := "BellHeirs", name := "terms", desc := "(II)I" } : MethodName) prog_1_method_11_code (4 : Nat) (Option.some FieldType.int)) ∈ aw_all := aw_3 149 rfl rfl
theorem lk_750 : (Cond.methodLink "BellHeirsLaw" (56 : Nat) ({ cls := "BellHeirs", name := "feed", desc := "(IIIII)I" } : MethodName)) ∈ aw_all := aw_3 150 rfl rfl
theorem lk_751 : (Cond.instanceMethod ({ cls := "BellHeirs", name := "feed", desc := "(IIIII)I" } : MethodName)) ∈ aw_all := aw_3 151 rfl rfl
theorem lk_752 : (Cond.selects "BellHeirs" ({ cls := "BellHeirs", name := "feed", desc := "(IIIII)I" } : MethodName) ({ cls := "BellHeirs", name := "feed", desc := "(IIIII)I" } : MethodName)) ∈ aw_all := aw_3 152 rfl rfl
theorem lk_753 : (Cond.code ({ cls := "BellHeirs", name := "feed", desc := "(IIIII)I" } : MethodName) prog_1_method_12_code (6 : Nat) (Option.some FieldType.int)) ∈ aw_all := aw_3 153 rfl rfl
theorem lk_754 : (Cond.methodLink "BellHeirs" (226 : Nat) ({ cls := "BellHeirs$Tape", name := "addFour", desc := "(I)V" } : MethodName)) ∈ aw_all := aw_3 154 rfl rfl
theorem lk_755 : (Cond.instanceMethod ({ cls := "BellHeirs$Tape", name := "addFour", desc := "(I)V" } : MethodName)) ∈ aw_all := aw_3 155 rfl rfl
theorem lk_756 : (Cond.selects "BellHeirs$Tape" ({ cls := "BellHeirs$Tape", name := "addFour", desc := "(I)V" } : MethodName) ({ cls := "BellHeirs$Tape", name := "addFour", desc := "(I)V" } : MethodName)) ∈ aw_all := aw_3 156 rfl rfl
theorem lk_757 : (Cond.code ({ cls := "BellHeirs$Tape", name := "addFour", desc := "(I)V" } : MethodName) prog_11_method_2_code (3 : Nat) (Option.none : Option Jvm.ClassFile.FieldType)) ∈ aw_all := aw_3 157 rfl rfl
theorem lk_758 : (Cond.methodLink "BellHeirsLaw" (61 : Nat) ({ cls := "BellHeirs", name := "end", desc := "(I)I" } : MethodName)) ∈ aw_all := aw_3 158 rfl rfl
theorem lk_759 : (Cond.instanceMethod ({ cls := "BellHeirs", name := "end", desc := "(I)I" } : MethodName)) ∈ aw_all := aw_3 159 rfl rfl
theorem lk_760 : (Cond.selects "BellHeirs" ({ cls := "BellHeirs", name := "end", desc := "(I)I" } : MethodName) ({ cls := "BellHeirs", name := "end", desc := "(I)I" } : MethodName)) ∈ aw_all := aw_3 160 rfl rfl
theorem lk_761 : (Cond.code ({ cls := "BellHeirs", name := "end", desc := "(I)I" } : MethodName) prog_1_method_13_code (2 : Nat) (Option.some FieldType.int)) ∈ aw_all := aw_3 161 rfl rfl
theorem lk_762 : (Cond.methodLink "BellHeirsLaw" (66 : Nat) ({ cls := "BellHeirs", name := "row", desc := "()I" } : MethodName)) ∈ aw_all := aw_3 162 rfl rfl
theorem lk_763 : (Cond.instanceMethod ({ cls := "BellHeirs", name := "row", desc := "()I" } : MethodName)) ∈ aw_all := aw_3 163 rfl rfl
theorem lk_764 : (Cond.selects "BellHeirs" ({ cls := "BellHeirs", name := "row", desc := "()I" } : MethodName) ({ cls := "BellHeirs", name := "row", desc := "()I" } : MethodName)) ∈ aw_all := aw_3 164 rfl rfl
theorem lk_765 : (Cond.code ({ cls := "BellHeirs", name := "row", desc := "()I" } : MethodName) prog_1_method_14_code (4 : Nat) (Option.some FieldType.int)) ∈ aw_all := aw_3 165 rfl rfl
theorem lk_766 : (Cond.methodLink "BellHeirs" (230 : Nat) ({ cls := "BellHeirs", name := nmLet, desc := "(I)Z" } : MethodName)) ∈ aw_all := aw_3 166 rfl rfl
theorem lk_768 : (Cond.instanceMethod ({ cls := "BellHeirs", name := nmLet, desc := "(I)Z" } : MethodName)) ∈ aw_all := aw_3 168 rfl rfl
theorem lk_769 : (Cond.code ({ cls := "BellHeirs", name := nmLet, desc := "(I)Z" } : MethodName) prog_1_method_46_code (7 : Nat) (Option.some FieldType.boolean)) ∈ aw_all := aw_3 169 rfl rfl
theorem lk_770 : (Cond.methodLink "BellHeirsLaw" (71 : Nat) ({ cls := "BellHeirs", name := "rust", desc := "()I" } : MethodName)) ∈ aw_all := aw_3 170 rfl rfl
theorem lk_771 : (Cond.instanceMethod ({ cls := "BellHeirs", name := "rust", desc := "()I" } : MethodName)) ∈ aw_all := aw_3 171 rfl rfl
theorem lk_772 : (Cond.selects "BellHeirs" ({ cls := "BellHeirs", name := "rust", desc := "()I" } : MethodName) ({ cls := "BellHeirs", name := "rust", desc := "()I" } : MethodName)) ∈ aw_all := aw_3 172 rfl rfl
theorem lk_773 : (Cond.code ({ cls := "BellHeirs", name := "rust", desc := "()I" } : MethodName) prog_1_method_15_code (1 : Nat) (Option.some FieldType.int)) ∈ aw_all := aw_3 173 rfl rfl
theorem lk_774 : (Cond.methodLink "BellHeirsLaw" (75 : Nat) ({ cls := "BellHeirs", name := "law", desc := "()I" } : MethodName)) ∈ aw_all := aw_3 174 rfl rfl
theorem lk_775 : (Cond.instanceMethod ({ cls := "BellHeirs", name := "law", desc := "()I" } : MethodName)) ∈ aw_all := aw_3 175 rfl rfl
theorem lk_776 : (Cond.selects "BellHeirs" ({ cls := "BellHeirs", name := "law", desc := "()I" } : MethodName) ({ cls := "BellHeirs", name := "law", desc := "()I" } : MethodName)) ∈ aw_all := aw_3 176 rfl rfl
theorem lk_777 : (Cond.code ({ cls := "BellHeirs", name := "law", desc := "()I" } : MethodName) prog_1_method_16_code (1 : Nat) (Option.some FieldType.int)) ∈ aw_all := aw_3 177 rfl rfl
theorem lk_778 : (Cond.methodLink "BellHeirs" (236 : Nat) ({ cls := "BellHeirs$Reader", name := "read", desc := "(Z)I" } : MethodName)) ∈ aw_all := aw_3 178 rfl rfl
theorem lk_779 : (Cond.instanceMethod ({ cls := "BellHeirs$Reader", name := "read", desc := "(Z)I" } : MethodName)) ∈ aw_all := aw_3 179 rfl rfl
theorem lk_780 : (Cond.selects "BellHeirs$Reader" ({ cls := "BellHeirs$Reader", name := "read", desc := "(Z)I" } : MethodName) ({ cls := "BellHeirs$Reader", name := "read", desc := "(Z)I" } : MethodName)) ∈ aw_all := aw_3 180 rfl rfl
theorem lk_781 : (Cond.code ({ cls := "BellHeirs$Reader", name := "read", desc := "(Z)I" } : MethodName) prog_7_method_2_code (4 : Nat) (Option.some FieldType.int)) ∈ aw_all := aw_3 181 rfl rfl
theorem lk_782 : (Cond.methodLink "BellHeirs$Reader" (30 : Nat) ({ cls := "BellHeirs$Text", name := "empty", desc := "()V" } : MethodName)) ∈ aw_all := aw_3 182 rfl rfl
theorem lk_783 : (Cond.instanceMethod ({ cls := "BellHeirs$Text", name := "empty", desc := "()V" } : MethodName)) ∈ aw_all := aw_3 183 rfl rfl
theorem lk_784 : (Cond.selects "BellHeirs$Text" ({ cls := "BellHeirs$Text", name := "empty", desc := "()V" } : MethodName) ({ cls := "BellHeirs$Text", name := "empty", desc := "()V" } : MethodName)) ∈ aw_all := aw_3 184 rfl rfl
theorem lk_785 : (Cond.code ({ cls := "BellHeirs$Text", name := "empty", desc := "()V" } : MethodName) prog_12_method_3_code (1 : Nat) (Option.none : Option Jvm.ClassFile.FieldType)) ∈ aw_all := aw_3 185 rfl rfl
theorem lk_786 : (Cond.methodLink "BellHeirs$Reader" (33 : Nat) ({ cls := "BellHeirs$Tape", name := "rewind", desc := "()V" } : MethodName)) ∈ aw_all := aw_3 186 rfl rfl
theorem lk_787 : (Cond.instanceMethod ({ cls := "BellHeirs$Tape", name := "rewind", desc := "()V" } : MethodName)) ∈ aw_all := aw_3 187 rfl rfl
theorem lk_788 : (Cond.selects "BellHeirs$Tape" ({ cls := "BellHeirs$Tape", name := "rewind", desc := "()V" } : MethodName) ({ cls := "BellHeirs$Tape", name := "rewind", desc := "()V" } : MethodName)) ∈ aw_all := aw_3 188 rfl rfl
theorem lk_789 : (Cond.code ({ cls := "BellHeirs$Tape", name := "rewind", desc := "()V" } : MethodName) prog_11_method_3_code (1 : Nat) (Option.none : Option Jvm.ClassFile.FieldType)) ∈ aw_all := aw_3 189 rfl rfl
theorem lk_790 : (Cond.methodLink "BellHeirs$Tape" (31 : Nat) ({ cls := "BellHeirs$Tape", name := "advance", desc := "()V" } : MethodName)) ∈ aw_all := aw_3 190 rfl rfl
theorem lk_791 : (Cond.instanceMethod ({ cls := "BellHeirs$Tape", name := "advance", desc := "()V" } : MethodName)) ∈ aw_all := aw_3 191 rfl rfl
theorem lk_792 : (Cond.selects "BellHeirs$Tape" ({ cls := "BellHeirs$Tape", name := "advance", desc := "()V" } : MethodName) ({ cls := "BellHeirs$Tape", name := "advance", desc := "()V" } : MethodName)) ∈ aw_all := aw_3 192 rfl rfl
theorem lk_793 : (Cond.code ({ cls := "BellHeirs$Tape", name := "advance", desc := "()V" } : MethodName) prog_11_method_4_code (1 : Nat) (Option.none : Option Jvm.ClassFile.FieldType)) ∈ aw_all := aw_3 193 rfl rfl
theorem lk_794 : (Cond.methodLink "BellHeirs$Tape" (34 : Nat) ({ cls := "BellHeirs$Tape", name := "isLetter", desc := "(I)Z" } : MethodName)) ∈ aw_all := aw_3 194 rfl rfl
theorem lk_795 : (Cond.static ({ cls := "BellHeirs$Tape", name := "isLetter", desc := "(I)Z" } : MethodName)) ∈ aw_all := aw_3 195 rfl rfl
theorem lk_796 : (Cond.code ({ cls := "BellHeirs$Tape", name := "isLetter", desc := "(I)Z" } : MethodName) prog_11_method_8_code (1 : Nat) (Option.some FieldType.boolean)) ∈ aw_all := aw_3 196 rfl rfl
theorem lk_797 : (Cond.methodLink "BellHeirs$Tape" (38 : Nat) ({ cls := "BellHeirs$Tape", name := "isDigit", desc := "(I)Z" } : MethodName)) ∈ aw_all := aw_3 197 rfl rfl
theorem lk_798 : (Cond.static ({ cls := "BellHeirs$Tape", name := "isDigit", desc := "(I)Z" } : MethodName)) ∈ aw_all := aw_3 198 rfl rfl
theorem lk_799 : (Cond.code ({ cls := "BellHeirs$Tape", name := "isDigit", desc := "(I)Z" } : MethodName) prog_11_method_9_code (1 : Nat) (Option.some FieldType.boolean)) ∈ aw_all := aw_3 199 rfl rfl
theorem lk_800 : (Cond.methodLink "BellHeirs$Tape" (41 : Nat) ({ cls := "java/lang/Math", name := "min", desc := "(II)I" } : MethodName)) ∈ aw_all := aw_3 200 rfl rfl
theorem lk_801 : (Cond.methodLink "BellHeirs$Reader" (38 : Nat) ({ cls := "BellHeirs$Reader", name := "readLawClause", desc := "()Z" } : MethodName)) ∈ aw_all := aw_3 201 rfl rfl
theorem lk_803 : (Cond.instanceMethod ({ cls := "BellHeirs$Reader", name := "readLawClause", desc := "()Z" } : MethodName)) ∈ aw_all := aw_3 203 rfl rfl
theorem lk_804 : (Cond.code ({ cls := "BellHeirs$Reader", name := "readLawClause", desc := "()Z" } : MethodName) prog_7_method_3_code (2 : Nat) (Option.some FieldType.boolean)) ∈ aw_all := aw_3 204 rfl rfl
theorem lk_805 : (Cond.methodLink "BellHeirs$Reader" (55 : Nat) ({ cls := "BellHeirs$Reader", name := "lawKind", desc := "()I" } : MethodName)) ∈ aw_all := aw_3 205 rfl rfl
theorem lk_807 : (Cond.instanceMethod ({ cls := "BellHeirs$Reader", name := "lawKind", desc := "()I" } : MethodName)) ∈ aw_all := aw_3 207 rfl rfl
theorem lk_808 : (Cond.code ({ cls := "BellHeirs$Reader", name := "lawKind", desc := "()I" } : MethodName) prog_7_method_4_code (1 : Nat) (Option.some FieldType.int)) ∈ aw_all := aw_3 208 rfl rfl
theorem lk_810 : (Cond.methodLink "BellHeirs$Reader" (75 : Nat) ({ cls := "BellHeirs$Tape", name := "isWord", desc := "(Ljava/lang/String;)Z" } : MethodName)) ∈ aw_all := aw_3 210 rfl rfl
theorem lk_811 : (Cond.instanceMethod ({ cls := "BellHeirs$Tape", name := "isWord", desc := "(Ljava/lang/String;)Z" } : MethodName)) ∈ aw_all := aw_3 211 rfl rfl
theorem lk_812 : (Cond.selects "BellHeirs$Tape" ({ cls := "BellHeirs$Tape", name := "isWord", desc := "(Ljava/lang/String;)Z" } : MethodName) ({ cls := "BellHeirs$Tape", name := "isWord", desc := "(Ljava/lang/String;)Z" } : MethodName)) ∈ aw_all := aw_3 212 rfl rfl
theorem lk_813 : (Cond.code ({ cls := "BellHeirs$Tape", name := "isWord", desc := "(Ljava/lang/String;)Z" } : MethodName) prog_11_method_6_code (3 : Nat) (Option.some FieldType.boolean)) ∈ aw_all := aw_3 213 rfl rfl
theorem lk_814 : (Cond.methodLink "BellHeirs$Tape" (47 : Nat) ({ cls := "java/lang/String", name := "length", desc := "()I" } : MethodName)) ∈ aw_all := aw_3 214 rfl rfl
theorem lk_815 : (Cond.instanceMethod ({ cls := "java/lang/String", name := "length", desc := "()I" } : MethodName)) ∈ aw_all := aw_3 215 rfl rfl
theorem lk_816 : (Cond.selects "java/lang/String" ({ cls := "java/lang/String", name := "length", desc := "()I" } : MethodName) ({ cls := "java/lang/String", name := "length", desc := "()I" } : MethodName)) ∈ aw_all := aw_3 216 rfl rfl
theorem lk_817 : (Cond.code ({ cls := "java/lang/String", name := "length", desc := "()I" } : MethodName) prog_17_method_54_code (1 : Nat) (Option.some FieldType.int)) ∈ aw_all := aw_3 217 rfl rfl
theorem lk_818 : (Cond.methodLink "java/lang/String" (335 : Nat) ({ cls := "java/lang/String", name := "coder", desc := "()B" } : MethodName)) ∈ aw_all := aw_3 218 rfl rfl
theorem lk_819 : (Cond.instanceMethod ({ cls := "java/lang/String", name := "coder", desc := "()B" } : MethodName)) ∈ aw_all := aw_3 219 rfl rfl
theorem lk_820 : (Cond.selects "java/lang/String" ({ cls := "java/lang/String", name := "coder", desc := "()B" } : MethodName) ({ cls := "java/lang/String", name := "coder", desc := "()B" } : MethodName)) ∈ aw_all := aw_3 220 rfl rfl
theorem lk_821 : (Cond.code ({ cls := "java/lang/String", name := "coder", desc := "()B" } : MethodName) prog_17_method_152_code (1 : Nat) (Option.some FieldType.byte)) ∈ aw_all := aw_3 221 rfl rfl
theorem lk_822 : (Cond.fieldLink "java/lang/String" (38 : Nat) "java/lang/String" "COMPACT_STRINGS" "Z") ∈ aw_all := aw_3 222 rfl rfl
theorem lk_824 : (Cond.methodLink "BellHeirs$Tape" (52 : Nat) ({ cls := "java/lang/String", name := "charAt", desc := "(I)C" } : MethodName)) ∈ aw_all := aw_3 224 rfl rfl
theorem lk_825 : (Cond.instanceMethod ({ cls := "java/lang/String", name := "charAt", desc := "(I)C" } : MethodName)) ∈ aw_all := aw_3 225 rfl rfl
theorem lk_826 : (Cond.selects "java/lang/String" ({ cls := "java/lang/String", name := "charAt", desc := "(I)C" } : MethodName) ({ cls := "java/lang/String", name := "charAt", desc := "(I)C" } : MethodName)) ∈ aw_all := aw_3 226 rfl rfl
theorem lk_827 : (Cond.code ({ cls := "java/lang/String", name := "charAt", desc := "(I)C" } : MethodName) prog_17_method_56_code (2 : Nat) (Option.some FieldType.char)) ∈ aw_all := aw_3 227 rfl rfl
theorem lk_828 : (Cond.methodLink "java/lang/String" (492 : Nat) ({ cls := "java/lang/String", name := "isLatin1", desc := "()Z" } : MethodName)) ∈ aw_all := aw_3 228 rfl rfl
theorem lk_829 : (Cond.instanceMethod ({ cls := "java/lang/String", name := "isLatin1", desc := "()Z" } : MethodName)) ∈ aw_all := aw_3 229 rfl rfl
theorem lk_830 : (Cond.selects "java/lang/String" ({ cls := "java/lang/String", name := "isLatin1", desc := "()Z" } : MethodName) ({ cls := "java/lang/String", name := "isLatin1", desc := "()Z" } : MethodName)) ∈ aw_all := aw_3 230 rfl rfl
theorem lk_831 : (Cond.code ({ cls := "java/lang/String", name := "isLatin1", desc := "()Z" } : MethodName) prog_17_method_154_code (1 : Nat) (Option.some FieldType.boolean)) ∈ aw_all := aw_3 231 rfl rfl
theorem lk_832 : (Cond.methodLink "java/lang/String" (495 : Nat) ({ cls := "java/lang/StringLatin1", name := "charAt", desc := "([BI)C" } : MethodName)) ∈ aw_all := aw_3 232 rfl rfl
theorem lk_833 : (Cond.static ({ cls := "java/lang/StringLatin1", name := "charAt", desc := "([BI)C" } : MethodName)) ∈ aw_all := aw_3 233 rfl rfl
theorem lk_834 : (Cond.code ({ cls := "java/lang/StringLatin1", name := "charAt", desc := "([BI)C" } : MethodName) prog_18_method_2_code (2 : Nat) (Option.some FieldType.char)) ∈ aw_all := aw_3 234 rfl rfl
theorem lk_835 : (Cond.methodLink "java/lang/StringLatin1" (9 : Nat) ({ cls := "java/lang/String", name := "checkIndex", desc := "(II)V" } : MethodName)) ∈ aw_all := aw_3 235 rfl rfl
theorem lk_836 : (Cond.static ({ cls := "java/lang/String", name := "checkIndex", desc := "(II)V" } : MethodName)) ∈ aw_all := aw_3 236 rfl rfl
theorem lk_837 : (Cond.code ({ cls := "java/lang/String", name := "checkIndex", desc := "(II)V" } : MethodName) prog_17_method_155_code (2 : Nat) (Option.none : Option Jvm.ClassFile.FieldType)) ∈ aw_all := aw_3 237 rfl rfl
theorem lk_838 : (Cond.fieldLink "java/lang/String" (1053 : Nat) "jdk/internal/util/Preconditions" "SIOOBE_FORMATTER" "Ljava/util/function/BiFunction;") ∈ aw_all := aw_3 238 rfl rfl
theorem lk_840 : (Cond.methodLink "java/lang/String" (1059 : Nat) ({ cls := "jdk/internal/util/Preconditions", name := "checkIndex", desc := "(IILjava/util/function/BiFunction;)I" } : MethodName)) ∈ aw_all := aw_4 0 rfl rfl
theorem lk_841 : (Cond.static ({ cls := "jdk/internal/util/Preconditions", name := "checkIndex", desc := "(IILjava/util/function/BiFunction;)I" } : MethodName)) ∈ aw_all := aw_4 1 rfl rfl
theorem lk_842 : (Cond.code ({ cls := "jdk/internal/util/Preconditions", name := "checkIndex", desc := "(IILjava/util/function/BiFunction;)I" } : MethodName) prog_21_method_11_code (3 : Nat) (Option.some FieldType.int)) ∈ aw_all := aw_4 2 rfl rfl
theorem lk_843 : (Cond.methodLink "java/lang/String" (498 : Nat) ({ cls := "java/lang/StringUTF16", name := "charAt", desc := "([BI)C" } : MethodName)) ∈ aw_all := aw_4 3 rfl rfl
theorem lk_844 : (Cond.static ({ cls := "java/lang/StringUTF16", name := "charAt", desc := "([BI)C" } : MethodName)) ∈ aw_all := aw_4 4 rfl rfl
theorem lk_845 : (Cond.code ({ cls := "java/lang/StringUTF16", name := "charAt", desc := "([BI)C" } : MethodName) prog_19_method_83_code (2 : Nat) (Option.some FieldType.char)) ∈ aw_all := aw_4 5 rfl rfl
theorem lk_846 : (Cond.methodLink "java/lang/StringUTF16" (67 : Nat) ({ cls := "java/lang/StringUTF16", name := "checkIndex", desc := "(I[B)V" } : MethodName)) ∈ aw_all := aw_4 6 rfl rfl
theorem lk_847 : (Cond.static ({ cls := "java/lang/StringUTF16", name := "checkIndex", desc := "(I[B)V" } : MethodName)) ∈ aw_all := aw_4 7 rfl rfl
theorem lk_848 : (Cond.code ({ cls := "java/lang/StringUTF16", name := "checkIndex", desc := "(I[B)V" } : MethodName) prog_19_method_91_code (2 : Nat) (Option.none : Option Jvm.ClassFile.FieldType)) ∈ aw_all := aw_4 8 rfl rfl
theorem lk_849 : (Cond.methodLink "java/lang/StringUTF16" (48 : Nat) ({ cls := "java/lang/StringUTF16", name := "length", desc := "([B)I" } : MethodName)) ∈ aw_all := aw_4 9 rfl rfl
theorem lk_850 : (Cond.static ({ cls := "java/lang/StringUTF16", name := "length", desc := "([B)I" } : MethodName)) ∈ aw_all := aw_4 10 rfl rfl
theorem lk_851 : (Cond.code ({ cls := "java/lang/StringUTF16", name := "length", desc := "([B)I" } : MethodName) prog_19_method_6_code (1 : Nat) (Option.some FieldType.int)) ∈ aw_all := aw_4 11 rfl rfl
theorem lk_852 : (Cond.methodLink "java/lang/StringUTF16" (414 : Nat) ({ cls := "java/lang/String", name := "checkIndex", desc := "(II)V" } : MethodName)) ∈ aw_all := aw_4 12 rfl rfl
theorem lk_853 : (Cond.methodLink "java/lang/StringUTF16" (71 : Nat) ({ cls := "java/lang/StringUTF16", name := "getChar", desc := "([BI)C" } : MethodName)) ∈ aw_all := aw_4 13 rfl rfl
theorem lk_854 : (Cond.static ({ cls := "java/lang/StringUTF16", name := "getChar", desc := "([BI)C" } : MethodName)) ∈ aw_all := aw_4 14 rfl rfl
theorem lk_855 : (Cond.code ({ cls := "java/lang/StringUTF16", name := "getChar", desc := "([BI)C" } : MethodName) prog_19_method_5_code (2 : Nat) (Option.some FieldType.char)) ∈ aw_all := aw_4 15 rfl rfl
theorem lk_856 : (Cond.fieldLink "java/lang/StringUTF16" (44 : Nat) "java/lang/StringUTF16" "$assertionsDisabled" "Z") ∈ aw_all := aw_4 16 rfl rfl
theorem lk_858 : (Cond.fieldLink "java/lang/StringUTF16" (59 : Nat) "java/lang/StringUTF16" "HI_BYTE_SHIFT" "I") ∈ aw_all := aw_4 18 rfl rfl
theorem lk_860 : (Cond.fieldLink "java/lang/StringUTF16" (63 : Nat) "java/lang/StringUTF16" "LO_BYTE_SHIFT" "I") ∈ aw_all := aw_4 20 rfl rfl
theorem lk_866 : (Cond.methodLink "BellHeirs$Reader" (59 : Nat) ({ cls := "BellHeirs$Text", name := "beginClause", desc := "(I)V" } : MethodName)) ∈ aw_all := aw_4 26 rfl rfl
theorem lk_867 : (Cond.instanceMethod ({ cls := "BellHeirs$Text", name := "beginClause", desc := "(I)V" } : MethodName)) ∈ aw_all := aw_4 27 rfl rfl
theorem lk_868 : (Cond.selects "BellHeirs$Text" ({ cls := "BellHeirs$Text", name := "beginClause", desc := "(I)V" } : MethodName) ({ cls := "BellHeirs$Text", name := "beginClause", desc := "(I)V" } : MethodName)) ∈ aw_all := aw_4 28 rfl rfl
theorem lk_869 : (Cond.code ({ cls := "BellHeirs$Text", name := "beginClause", desc := "(I)V" } : MethodName) prog_12_method_4_code (3 : Nat) (Option.none : Option Jvm.ClassFile.FieldType)) ∈ aw_all := aw_4 29 rfl rfl
theorem lk_870 : (Cond.methodLink "BellHeirs$Reader" (63 : Nat) ({ cls := "BellHeirs$Tape", name := "advance", desc := "()V" } : MethodName)) ∈ aw_all := aw_4 30 rfl rfl
theorem lk_871 : (Cond.methodLink "BellHeirs$Reader" (66 : Nat) ({ cls := "BellHeirs$Reader", name := "readSum", desc := "(I)Z" } : MethodName)) ∈ aw_all := aw_4 31 rfl rfl
theorem lk_873 : (Cond.instanceMethod ({ cls := "BellHeirs$Reader", name := "readSum", desc := "(I)Z" } : MethodName)) ∈ aw_all := aw_4 33 rfl rfl
theorem lk_874 : (Cond.code ({ cls := "BellHeirs$Reader", name := "readSum", desc := "(I)Z" } : MethodName) prog_7_method_14_code (4 : Nat) (Option.some FieldType.boolean)) ∈ aw_all := aw_4 34 rfl rfl
theorem lk_875 : (Cond.methodLink "BellHeirs$Reader" (159 : Nat) ({ cls := "BellHeirs$Reader", name := "readTerm", desc := "(I)Z" } : MethodName)) ∈ aw_all := aw_4 35 rfl rfl
theorem lk_877 : (Cond.instanceMethod ({ cls := "BellHeirs$Reader", name := "readTerm", desc := "(I)Z" } : MethodName)) ∈ aw_all := aw_4 37 rfl rfl
theorem lk_878 : (Cond.code ({ cls := "BellHeirs$Reader", name := "readTerm", desc := "(I)Z" } : MethodName) prog_7_method_15_code (4 : Nat) (Option.some FieldType.boolean)) ∈ aw_all := aw_4 38 rfl rfl
theorem lk_879 : (Cond.methodLink "BellHeirs$Reader" (162 : Nat) ({ cls := "BellHeirs$Reader", name := "readFactor", desc := "(I)Z" } : MethodName)) ∈ aw_all := aw_4 39 rfl rfl
theorem lk_881 : (Cond.instanceMethod ({ cls := "BellHeirs$Reader", name := "readFactor", desc := "(I)Z" } : MethodName)) ∈ aw_all := aw_4 41 rfl rfl
theorem lk_882 : (Cond.code ({ cls := "BellHeirs$Reader", name := "readFactor", desc := "(I)Z" } : MethodName) prog_7_method_17_code (3 : Nat) (Option.some FieldType.boolean)) ∈ aw_all := aw_4 42 rfl rfl
theorem lk_883 : (Cond.methodLink "BellHeirs$Reader" (150 : Nat) ({ cls := "BellHeirs$Tape", name := "isSign", desc := "(C)Z" } : MethodName)) ∈ aw_all := aw_4 43 rfl rfl
theorem lk_884 : (Cond.instanceMethod ({ cls := "BellHeirs$Tape", name := "isSign", desc := "(C)Z" } : MethodName)) ∈ aw_all := aw_4 44 rfl rfl
theorem lk_885 : (Cond.selects "BellHeirs$Tape" ({ cls := "BellHeirs$Tape", name := "isSign", desc := "(C)Z" } : MethodName) ({ cls := "BellHeirs$Tape", name := "isSign", desc := "(C)Z" } : MethodName)) ∈ aw_all := aw_4 45 rfl rfl
theorem lk_886 : (Cond.code ({ cls := "BellHeirs$Tape", name := "isSign", desc := "(C)Z" } : MethodName) prog_11_method_5_code (2 : Nat) (Option.some FieldType.boolean)) ∈ aw_all := aw_4 46 rfl rfl
theorem lk_887 : (Cond.methodLink "BellHeirs$Reader" (48 : Nat) ({ cls := "BellHeirs$Reader", name := "takeSign", desc := "(C)Z" } : MethodName)) ∈ aw_all := aw_4 47 rfl rfl
theorem lk_889 : (Cond.instanceMethod ({ cls := "BellHeirs$Reader", name := "takeSign", desc := "(C)Z" } : MethodName)) ∈ aw_all := aw_4 49 rfl rfl
theorem lk_890 : (Cond.code ({ cls := "BellHeirs$Reader", name := "takeSign", desc := "(C)Z" } : MethodName) prog_7_method_23_code (2 : Nat) (Option.some FieldType.boolean)) ∈ aw_all := aw_4 50 rfl rfl
theorem lk_891 : (Cond.methodLink "BellHeirs$Reader" (116 : Nat) ({ cls := "BellHeirs$Tape", name := "isNumber", desc := "(II)Z" } : MethodName)) ∈ aw_all := aw_4 51 rfl rfl
theorem lk_892 : (Cond.instanceMethod ({ cls := "BellHeirs$Tape", name := "isNumber", desc := "(II)Z" } : MethodName)) ∈ aw_all := aw_4 52 rfl rfl
theorem lk_893 : (Cond.selects "BellHeirs$Tape" ({ cls := "BellHeirs$Tape", name := "isNumber", desc := "(II)Z" } : MethodName) ({ cls := "BellHeirs$Tape", name := "isNumber", desc := "(II)Z" } : MethodName)) ∈ aw_all := aw_4 53 rfl rfl
theorem lk_894 : (Cond.code ({ cls := "BellHeirs$Tape", name := "isNumber", desc := "(II)Z" } : MethodName) prog_11_method_7_code (3 : Nat) (Option.some FieldType.boolean)) ∈ aw_all := aw_4 54 rfl rfl
theorem lk_895 : (Cond.methodLink "BellHeirs$Reader" (136 : Nat) ({ cls := "BellHeirs$Text", name := "add", desc := "(II)I" } : MethodName)) ∈ aw_all := aw_4 55 rfl rfl
theorem lk_896 : (Cond.instanceMethod ({ cls := "BellHeirs$Text", name := "add", desc := "(II)I" } : MethodName)) ∈ aw_all := aw_4 56 rfl rfl
theorem lk_897 : (Cond.selects "BellHeirs$Text" ({ cls := "BellHeirs$Text", name := "add", desc := "(II)I" } : MethodName) ({ cls := "BellHeirs$Text", name := "add", desc := "(II)I" } : MethodName)) ∈ aw_all := aw_4 57 rfl rfl
theorem lk_898 : (Cond.code ({ cls := "BellHeirs$Text", name := "add", desc := "(II)I" } : MethodName) prog_12_method_7_code (4 : Nat) (Option.some FieldType.int)) ∈ aw_all := aw_4 58 rfl rfl
theorem lk_899 : (Cond.methodLink "BellHeirs$Reader" (168 : Nat) ({ cls := "BellHeirs$Reader", name := "lawWord", desc := "()I" } : MethodName)) ∈ aw_all := aw_4 59 rfl rfl
theorem lk_901 : (Cond.instanceMethod ({ cls := "BellHeirs$Reader", name := "lawWord", desc := "()I" } : MethodName)) ∈ aw_all := aw_4 61 rfl rfl
theorem lk_902 : (Cond.code ({ cls := "BellHeirs$Reader", name := "lawWord", desc := "()I" } : MethodName) prog_7_method_20_code (1 : Nat) (Option.some FieldType.int)) ∈ aw_all := aw_4 62 rfl rfl
theorem lk_912 : (Cond.methodLink "BellHeirs$Reader" (171 : Nat) ({ cls := "BellHeirs$Reader", name := "orderWord", desc := "()I" } : MethodName)) ∈ aw_all := aw_4 72 rfl rfl
theorem lk_914 : (Cond.instanceMethod ({ cls := "BellHeirs$Reader", name := "orderWord", desc := "()I" } : MethodName)) ∈ aw_all := aw_4 74 rfl rfl
theorem lk_915 : (Cond.code ({ cls := "BellHeirs$Reader", name := "orderWord", desc := "()I" } : MethodName) prog_7_method_21_code (1 : Nat) (Option.some FieldType.int)) ∈ aw_all := aw_4 75 rfl rfl
theorem lk_919 : (Cond.methodLink "BellHeirs$Reader" (174 : Nat) ({ cls := "BellHeirs$Reader", name := "addWord", desc := "(I)Z" } : MethodName)) ∈ aw_all := aw_4 79 rfl rfl
theorem lk_921 : (Cond.instanceMethod ({ cls := "BellHeirs$Reader", name := "addWord", desc := "(I)Z" } : MethodName)) ∈ aw_all := aw_4 81 rfl rfl
theorem lk_922 : (Cond.code ({ cls := "BellHeirs$Reader", name := "addWord", desc := "(I)Z" } : MethodName) prog_7_method_18_code (2 : Nat) (Option.some FieldType.boolean)) ∈ aw_all := aw_4 82 rfl rfl
theorem lk_923 : (Cond.methodLink "BellHeirs$Reader" (177 : Nat) ({ cls := "BellHeirs$Reader", name := "readWhose", desc := "(I)Z" } : MethodName)) ∈ aw_all := aw_4 83 rfl rfl
theorem lk_925 : (Cond.instanceMethod ({ cls := "BellHeirs$Reader", name := "readWhose", desc := "(I)Z" } : MethodName)) ∈ aw_all := aw_4 85 rfl rfl
theorem lk_926 : (Cond.code ({ cls := "BellHeirs$Reader", name := "readWhose", desc := "(I)Z" } : MethodName) prog_7_method_19_code (3 : Nat) (Option.some FieldType.boolean)) ∈ aw_all := aw_4 86 rfl rfl
theorem lk_927 : (Cond.methodLink "BellHeirs$Reader" (165 : Nat) ({ cls := "BellHeirs$Reader", name := "isTermSign", desc := "()Z" } : MethodName)) ∈ aw_all := aw_4 87 rfl rfl
theorem lk_929 : (Cond.instanceMethod ({ cls := "BellHeirs$Reader", name := "isTermSign", desc := "()Z" } : MethodName)) ∈ aw_all := aw_4 89 rfl rfl
theorem lk_930 : (Cond.code ({ cls := "BellHeirs$Reader", name := "isTermSign", desc := "()Z" } : MethodName) prog_7_method_16_code (1 : Nat) (Option.some FieldType.boolean)) ∈ aw_all := aw_4 90 rfl rfl
theorem lk_931 : (Cond.methodLink "BellHeirs$Reader" (70 : Nat) ({ cls := "BellHeirs$Reader", name := "readIf", desc := "()Z" } : MethodName)) ∈ aw_all := aw_4 91 rfl rfl
theorem lk_933 : (Cond.instanceMethod ({ cls := "BellHeirs$Reader", name := "readIf", desc := "()Z" } : MethodName)) ∈ aw_all := aw_4 93 rfl rfl
theorem lk_934 : (Cond.code ({ cls := "BellHeirs$Reader", name := "readIf", desc := "()Z" } : MethodName) prog_7_method_8_code (1 : Nat) (Option.some FieldType.boolean)) ∈ aw_all := aw_4 94 rfl rfl
theorem lk_935 : (Cond.methodLink "BellHeirs$Reader" (111 : Nat) ({ cls := "BellHeirs$Text", name := "openPart", desc := "(I)V" } : MethodName)) ∈ aw_all := aw_4 95 rfl rfl
theorem lk_936 : (Cond.instanceMethod ({ cls := "BellHeirs$Text", name := "openPart", desc := "(I)V" } : MethodName)) ∈ aw_all := aw_4 96 rfl rfl
theorem lk_937 : (Cond.selects "BellHeirs$Text" ({ cls := "BellHeirs$Text", name := "openPart", desc := "(I)V" } : MethodName) ({ cls := "BellHeirs$Text", name := "openPart", desc := "(I)V" } : MethodName)) ∈ aw_all := aw_4 97 rfl rfl
theorem lk_938 : (Cond.code ({ cls := "BellHeirs$Text", name := "openPart", desc := "(I)V" } : MethodName) prog_12_method_5_code (2 : Nat) (Option.none : Option Jvm.ClassFile.FieldType)) ∈ aw_all := aw_4 98 rfl rfl
theorem lk_939 : (Cond.methodLink "BellHeirs$Text" (34 : Nat) ({ cls := "java/lang/Math", name := "min", desc := "(II)I" } : MethodName)) ∈ aw_all := aw_4 99 rfl rfl
theorem lk_940 : (Cond.methodLink "BellHeirs$Text" (40 : Nat) ({ cls := "java/lang/Math", name := "max", desc := "(II)I" } : MethodName)) ∈ aw_all := aw_4 100 rfl rfl
theorem lk_942 : (Cond.methodLink "BellHeirs$Reader" (89 : Nat) ({ cls := "BellHeirs$Reader", name := "takeWord", desc := "(Ljava/lang/String;)Z" } : MethodName)) ∈ aw_all := aw_4 102 rfl rfl
theorem lk_944 : (Cond.instanceMethod ({ cls := "BellHeirs$Reader", name := "takeWord", desc := "(Ljava/lang/String;)Z" } : MethodName)) ∈ aw_all := aw_4 104 rfl rfl
theorem lk_945 : (Cond.code ({ cls := "BellHeirs$Reader", name := "takeWord", desc := "(Ljava/lang/String;)Z" } : MethodName) prog_7_method_22_code (2 : Nat) (Option.some FieldType.boolean)) ∈ aw_all := aw_4 105 rfl rfl
theorem lk_946 : (Cond.methodLink "BellHeirs$Reader" (128 : Nat) ({ cls := "BellHeirs$Reader", name := "readTest", desc := "(I)Z" } : MethodName)) ∈ aw_all := aw_4 106 rfl rfl
theorem lk_948 : (Cond.instanceMethod ({ cls := "BellHeirs$Reader", name := "readTest", desc := "(I)Z" } : MethodName)) ∈ aw_all := aw_4 108 rfl rfl
theorem lk_949 : (Cond.code ({ cls := "BellHeirs$Reader", name := "readTest", desc := "(I)Z" } : MethodName) prog_7_method_9_code (4 : Nat) (Option.some FieldType.boolean)) ∈ aw_all := aw_4 109 rfl rfl
theorem lk_950 : (Cond.methodLink "BellHeirs$Reader" (131 : Nat) ({ cls := "BellHeirs$Reader", name := "readBoth", desc := "(I)Z" } : MethodName)) ∈ aw_all := aw_4 110 rfl rfl
theorem lk_952 : (Cond.instanceMethod ({ cls := "BellHeirs$Reader", name := "readBoth", desc := "(I)Z" } : MethodName)) ∈ aw_all := aw_4 112 rfl rfl
theorem lk_953 : (Cond.code ({ cls := "BellHeirs$Reader", name := "readBoth", desc := "(I)Z" } : MethodName) prog_7_method_10_code (4 : Nat) (Option.some FieldType.boolean)) ∈ aw_all := aw_4 113 rfl rfl
theorem lk_954 : (Cond.methodLink "BellHeirs$Reader" (143 : Nat) ({ cls := "BellHeirs$Reader", name := "readPlain", desc := "(I)Z" } : MethodName)) ∈ aw_all := aw_4 114 rfl rfl
theorem lk_956 : (Cond.instanceMethod ({ cls := "BellHeirs$Reader", name := "readPlain", desc := "(I)Z" } : MethodName)) ∈ aw_all := aw_4 116 rfl rfl
theorem lk_957 : (Cond.code ({ cls := "BellHeirs$Reader", name := "readPlain", desc := "(I)Z" } : MethodName) prog_7_method_11_code (4 : Nat) (Option.some FieldType.boolean)) ∈ aw_all := aw_4 117 rfl rfl
theorem lk_959 : (Cond.methodLink "BellHeirs$Reader" (153 : Nat) ({ cls := "BellHeirs$Reader", name := "readBracketedTest", desc := "(I)Z" } : MethodName)) ∈ aw_all := aw_4 119 rfl rfl
theorem lk_961 : (Cond.instanceMethod ({ cls := "BellHeirs$Reader", name := "readBracketedTest", desc := "(I)Z" } : MethodName)) ∈ aw_all := aw_4 121 rfl rfl
theorem lk_962 : (Cond.code ({ cls := "BellHeirs$Reader", name := "readBracketedTest", desc := "(I)Z" } : MethodName) prog_7_method_12_code (2 : Nat) (Option.some FieldType.boolean)) ∈ aw_all := aw_4 122 rfl rfl
theorem lk_963 : (Cond.methodLink "BellHeirs$Reader" (156 : Nat) ({ cls := "BellHeirs$Reader", name := "readComparison", desc := "(I)Z" } : MethodName)) ∈ aw_all := aw_4 123 rfl rfl
theorem lk_965 : (Cond.instanceMethod ({ cls := "BellHeirs$Reader", name := "readComparison", desc := "(I)Z" } : MethodName)) ∈ aw_all := aw_4 125 rfl rfl
theorem lk_966 : (Cond.code ({ cls := "BellHeirs$Reader", name := "readComparison", desc := "(I)Z" } : MethodName) prog_7_method_13_code (3 : Nat) (Option.some FieldType.boolean)) ∈ aw_all := aw_4 126 rfl rfl
theorem lk_968 : (Cond.methodLink "BellHeirs$Reader" (140 : Nat) ({ cls := "BellHeirs$Text", name := "landSkip", desc := "(I)V" } : MethodName)) ∈ aw_all := aw_4 128 rfl rfl
theorem lk_969 : (Cond.instanceMethod ({ cls := "BellHeirs$Text", name := "landSkip", desc := "(I)V" } : MethodName)) ∈ aw_all := aw_4 129 rfl rfl
theorem lk_970 : (Cond.selects "BellHeirs$Text" ({ cls := "BellHeirs$Text", name := "landSkip", desc := "(I)V" } : MethodName) ({ cls := "BellHeirs$Text", name := "landSkip", desc := "(I)V" } : MethodName)) ∈ aw_all := aw_4 130 rfl rfl
theorem lk_971 : (Cond.code ({ cls := "BellHeirs$Text", name := "landSkip", desc := "(I)V" } : MethodName) prog_12_method_8_code (2 : Nat) (Option.none : Option Jvm.ClassFile.FieldType)) ∈ aw_all := aw_4 131 rfl rfl
theorem lk_973 : (Cond.methodLink "BellHeirs$Reader" (42 : Nat) ({ cls := "BellHeirs$Reader", name := "readOrderClause", desc := "()Z" } : MethodName)) ∈ aw_all := aw_4 133 rfl rfl
theorem lk_975 : (Cond.instanceMethod ({ cls := "BellHeirs$Reader", name := "readOrderClause", desc := "()Z" } : MethodName)) ∈ aw_all := aw_4 135 rfl rfl
theorem lk_976 : (Cond.code ({ cls := "BellHeirs$Reader", name := "readOrderClause", desc := "()Z" } : MethodName) prog_7_method_5_code (1 : Nat) (Option.some FieldType.boolean)) ∈ aw_all := aw_4 136 rfl rfl
theorem lk_979 : (Cond.methodLink "BellHeirs$Reader" (94 : Nat) ({ cls := "BellHeirs$Reader", name := "readNextSum", desc := "(Ljava/lang/String;I)Z" } : MethodName)) ∈ aw_all := aw_4 139 rfl rfl
theorem lk_981 : (Cond.instanceMethod ({ cls := "BellHeirs$Reader", name := "readNextSum", desc := "(Ljava/lang/String;I)Z" } : MethodName)) ∈ aw_all := aw_4 141 rfl rfl
theorem lk_982 : (Cond.code ({ cls := "BellHeirs$Reader", name := "readNextSum", desc := "(Ljava/lang/String;I)Z" } : MethodName) prog_7_method_6_code (3 : Nat) (Option.some FieldType.boolean)) ∈ aw_all := aw_4 142 rfl rfl
theorem lk_983 : (Cond.methodLink "BellHeirs$Reader" (98 : Nat) ({ cls := "BellHeirs$Reader", name := "readTimes", desc := "()Z" } : MethodName)) ∈ aw_all := aw_4 143 rfl rfl
theorem lk_985 : (Cond.instanceMethod ({ cls := "BellHeirs$Reader", name := "readTimes", desc := "()Z" } : MethodName)) ∈ aw_all := aw_4 145 rfl rfl
theorem lk_986 : (Cond.code ({ cls := "BellHeirs$Reader", name := "readTimes", desc := "()Z" } : MethodName) prog_7_method_7_code (1 : Nat) (Option.some FieldType.boolean)) ∈ aw_all := aw_4 146 rfl rfl
theorem lk_988 : (Cond.methodLink "BellHeirs$Reader" (123 : Nat) ({ cls := "BellHeirs$Text", name := "setTimes", desc := "(I)V" } : MethodName)) ∈ aw_all := aw_4 148 rfl rfl
theorem lk_989 : (Cond.instanceMethod ({ cls := "BellHeirs$Text", name := "setTimes", desc := "(I)V" } : MethodName)) ∈ aw_all := aw_4 149 rfl rfl
theorem lk_990 : (Cond.selects "BellHeirs$Text" ({ cls := "BellHeirs$Text", name := "setTimes", desc := "(I)V" } : MethodName) ({ cls := "BellHeirs$Text", name := "setTimes", desc := "(I)V" } : MethodName)) ∈ aw_all := aw_4 150 rfl rfl
theorem lk_991 : (Cond.code ({ cls := "BellHeirs$Text", name := "setTimes", desc := "(I)V" } : MethodName) prog_12_method_6_code (2 : Nat) (Option.none : Option Jvm.ClassFile.FieldType)) ∈ aw_all := aw_4 151 rfl rfl
theorem lk_996 : (Cond.classLink "BellHeirs" (240 : Nat) "BellHeirs$Text") ∈ aw_all := aw_4 156 rfl rfl
theorem lk_997 : (Cond.methodLink "BellHeirs" (246 : Nat) ({ cls := "BellHeirs$Text", name := "<init>", desc := "(LBellHeirs$Text;)V" } : MethodName)) ∈ aw_all := aw_4 157 rfl rfl
theorem lk_998 : (Cond.instanceMethod ({ cls := "BellHeirs$Text", name := "<init>", desc := "(LBellHeirs$Text;)V" } : MethodName)) ∈ aw_all := aw_4 158 rfl rfl
theorem lk_999 : (Cond.code ({ cls := "BellHeirs$Text", name := "<init>", desc := "(LBellHeirs$Text;)V" } : MethodName) prog_12_method_2_code (2 : Nat) (Option.none : Option Jvm.ClassFile.FieldType)) ∈ aw_all := aw_4 159 rfl rfl
theorem lk_1000 : (Cond.methodLink "BellHeirs$Text" (43 : Nat) ({ cls := "java/lang/System", name := "arraycopy", desc := "(Ljava/lang/Object;ILjava/lang/Object;II)V" } : MethodName)) ∈ aw_all := aw_4 160 rfl rfl
theorem lk_1001 : (Cond.static ({ cls := "java/lang/System", name := "arraycopy", desc := "(Ljava/lang/Object;ILjava/lang/Object;II)V" } : MethodName)) ∈ aw_all := aw_4 161 rfl rfl
theorem lk_1002 : (Cond.native ({ cls := "java/lang/System", name := "arraycopy", desc := "(Ljava/lang/Object;ILjava/lang/Object;II)V" } : MethodName)) ∈ aw_all := aw_4 162 rfl rfl
theorem lk_1003 : (Cond.methodLink "BellHeirs" (249 : Nat) ({ cls := "BellHeirs$Suburb", name := "addLaw", desc := "(LBellHeirs$Text;)I" } : MethodName)) ∈ aw_all := aw_4 163 rfl rfl
theorem lk_1004 : (Cond.instanceMethod ({ cls := "BellHeirs$Suburb", name := "addLaw", desc := "(LBellHeirs$Text;)I" } : MethodName)) ∈ aw_all := aw_4 164 rfl rfl
theorem lk_1005 : (Cond.selects "BellHeirs$Suburb" ({ cls := "BellHeirs$Suburb", name := "addLaw", desc := "(LBellHeirs$Text;)I" } : MethodName) ({ cls := "BellHeirs$Suburb", name := "addLaw", desc := "(LBellHeirs$Text;)I" } : MethodName)) ∈ aw_all := aw_4 165 rfl rfl
theorem lk_1006 : (Cond.code ({ cls := "BellHeirs$Suburb", name := "addLaw", desc := "(LBellHeirs$Text;)I" } : MethodName) prog_10_method_5_code (2 : Nat) (Option.some FieldType.int)) ∈ aw_all := aw_4 166 rfl rfl
theorem lk_1007 : (Cond.arrayClass FieldType.byte) ∈ aw_all := aw_4 167 rfl rfl
theorem lk_1008 : (Cond.methodLink "BellHeirsLaw" (79 : Nat) ({ cls := "BellHeirs", name := "orders", desc := "()I" } : MethodName)) ∈ aw_all := aw_4 168 rfl rfl
theorem lk_1009 : (Cond.instanceMethod ({ cls := "BellHeirs", name := "orders", desc := "()I" } : MethodName)) ∈ aw_all := aw_4 169 rfl rfl
theorem lk_1010 : (Cond.selects "BellHeirs" ({ cls := "BellHeirs", name := "orders", desc := "()I" } : MethodName) ({ cls := "BellHeirs", name := "orders", desc := "()I" } : MethodName)) ∈ aw_all := aw_4 170 rfl rfl
theorem lk_1011 : (Cond.code ({ cls := "BellHeirs", name := "orders", desc := "()I" } : MethodName) prog_1_method_17_code (1 : Nat) (Option.some FieldType.int)) ∈ aw_all := aw_4 171 rfl rfl
theorem lk_1012 : (Cond.methodLink "BellHeirs" (253 : Nat) ({ cls := "BellHeirs$Suburb", name := "copyFrom", desc := "(LBellHeirs$Suburb;)V" } : MethodName)) ∈ aw_all := aw_4 172 rfl rfl
theorem lk_1013 : (Cond.instanceMethod ({ cls := "BellHeirs$Suburb", name := "copyFrom", desc := "(LBellHeirs$Suburb;)V" } : MethodName)) ∈ aw_all := aw_4 173 rfl rfl
theorem lk_1014 : (Cond.selects "BellHeirs$Suburb" ({ cls := "BellHeirs$Suburb", name := "copyFrom", desc := "(LBellHeirs$Suburb;)V" } : MethodName) ({ cls := "BellHeirs$Suburb", name := "copyFrom", desc := "(LBellHeirs$Suburb;)V" } : MethodName)) ∈ aw_all := aw_4 174 rfl rfl
theorem lk_1015 : (Cond.code ({ cls := "BellHeirs$Suburb", name := "copyFrom", desc := "(LBellHeirs$Suburb;)V" } : MethodName) prog_10_method_2_code (3 : Nat) (Option.none : Option Jvm.ClassFile.FieldType)) ∈ aw_all := aw_4 175 rfl rfl
theorem lk_1016 : (Cond.methodLink "BellHeirs$Suburb" (71 : Nat) ({ cls := "BellHeirs$Ledger", name := "copyFrom", desc := "(LBellHeirs$Ledger;)V" } : MethodName)) ∈ aw_all := aw_4 176 rfl rfl
theorem lk_1017 : (Cond.instanceMethod ({ cls := "BellHeirs$Ledger", name := "copyFrom", desc := "(LBellHeirs$Ledger;)V" } : MethodName)) ∈ aw_all := aw_4 177 rfl rfl
theorem lk_1018 : (Cond.selects "BellHeirs$Ledger" ({ cls := "BellHeirs$Ledger", name := "copyFrom", desc := "(LBellHeirs$Ledger;)V" } : MethodName) ({ cls := "BellHeirs$Ledger", name := "copyFrom", desc := "(LBellHeirs$Ledger;)V" } : MethodName)) ∈ aw_all := aw_4 178 rfl rfl
theorem lk_1019 : (Cond.code ({ cls := "BellHeirs$Ledger", name := "copyFrom", desc := "(LBellHeirs$Ledger;)V" } : MethodName) prog_4_method_2_code (2 : Nat) (Option.none : Option Jvm.ClassFile.FieldType)) ∈ aw_all := aw_4 179 rfl rfl
theorem lk_1020 : (Cond.methodLink "BellHeirs$Ledger" (31 : Nat) ({ cls := "java/lang/System", name := "arraycopy", desc := "(Ljava/lang/Object;ILjava/lang/Object;II)V" } : MethodName)) ∈ aw_all := aw_4 180 rfl rfl
theorem lk_1021 : (Cond.methodLink "BellHeirs$Suburb" (75 : Nat) ({ cls := "java/lang/System", name := "arraycopy", desc := "(Ljava/lang/Object;ILjava/lang/Object;II)V" } : MethodName)) ∈ aw_all := aw_4 181 rfl rfl
theorem lk_1022 : (Cond.methodLink "BellHeirs" (257 : Nat) ({ cls := "BellHeirs$Deeds", name := "run", desc := "(LBellHeirs$Text;LBellHeirs$Suburb;LBellHeirs$Log;)I" } : MethodName)) ∈ aw_all := aw_4 182 rfl rfl
theorem lk_1023 : (Cond.instanceMethod ({ cls := "BellHeirs$Deeds", name := "run", desc := "(LBellHeirs$Text;LBellHeirs$Suburb;LBellHeirs$Log;)I" } : MethodName)) ∈ aw_all := aw_4 183 rfl rfl
theorem lk_1024 : (Cond.selects "BellHeirs$Deeds" ({ cls := "BellHeirs$Deeds", name := "run", desc := "(LBellHeirs$Text;LBellHeirs$Suburb;LBellHeirs$Log;)I" } : MethodName) ({ cls := "BellHeirs$Deeds", name := "run", desc := "(LBellHeirs$Text;LBellHeirs$Suburb;LBellHeirs$Log;)I" } : MethodName)) ∈ aw_all := aw_4 184 rfl rfl
theorem lk_1025 : (Cond.code ({ cls := "BellHeirs$Deeds", name := "run", desc := "(LBellHeirs$Text;LBellHeirs$Suburb;LBellHeirs$Log;)I" } : MethodName) prog_3_method_9_code (10 : Nat) (Option.some FieldType.int)) ∈ aw_all := aw_4 185 rfl rfl
theorem lk_1026 : (Cond.methodLink "BellHeirs$Deeds" (144 : Nat) ({ cls := "BellHeirs$Deeds", name := "setWords", desc := "(LBellHeirs$Suburb;)V" } : MethodName)) ∈ aw_all := aw_4 186 rfl rfl
theorem lk_1028 : (Cond.instanceMethod ({ cls := "BellHeirs$Deeds", name := "setWords", desc := "(LBellHeirs$Suburb;)V" } : MethodName)) ∈ aw_all := aw_4 188 rfl rfl
theorem lk_1029 : (Cond.code ({ cls := "BellHeirs$Deeds", name := "setWords", desc := "(LBellHeirs$Suburb;)V" } : MethodName) prog_3_method_10_code (4 : Nat) (Option.none : Option Jvm.ClassFile.FieldType)) ∈ aw_all := aw_4 189 rfl rfl
theorem lk_1030 : (Cond.methodLink "BellHeirs$Deeds" (172 : Nat) ({ cls := "BellHeirs$Suburb", name := "livingPeople", desc := "()I" } : MethodName)) ∈ aw_all := aw_4 190 rfl rfl
theorem lk_1031 : (Cond.instanceMethod ({ cls := "BellHeirs$Suburb", name := "livingPeople", desc := "()I" } : MethodName)) ∈ aw_all := aw_4 191 rfl rfl
theorem lk_1032 : (Cond.selects "BellHeirs$Suburb" ({ cls := "BellHeirs$Suburb", name := "livingPeople", desc := "()I" } : MethodName) ({ cls := "BellHeirs$Suburb", name := "livingPeople", desc := "()I" } : MethodName)) ∈ aw_all := aw_4 192 rfl rfl
theorem lk_1033 : (Cond.code ({ cls := "BellHeirs$Suburb", name := "livingPeople", desc := "()I" } : MethodName) prog_10_method_15_code (3 : Nat) (Option.some FieldType.int)) ∈ aw_all := aw_4 193 rfl rfl
theorem lk_1034 : (Cond.methodLink "BellHeirs$Suburb" (117 : Nat) ({ cls := "BellHeirs$Suburb", name := "lives", desc := "(I)Z" } : MethodName)) ∈ aw_all := aw_4 194 rfl rfl
theorem lk_1035 : (Cond.methodLink "BellHeirs$Deeds" (36 : Nat) ({ cls := "BellHeirs$Suburb", name := "hasPerson", desc := "(I)Z" } : MethodName)) ∈ aw_all := aw_4 195 rfl rfl
theorem lk_1036 : (Cond.methodLink "BellHeirs$Deeds" (176 : Nat) ({ cls := "BellHeirs$Suburb", name := "allLeftOf", desc := "(I)I" } : MethodName)) ∈ aw_all := aw_4 196 rfl rfl
theorem lk_1037 : (Cond.instanceMethod ({ cls := "BellHeirs$Suburb", name := "allLeftOf", desc := "(I)I" } : MethodName)) ∈ aw_all := aw_4 197 rfl rfl
theorem lk_1038 : (Cond.selects "BellHeirs$Suburb" ({ cls := "BellHeirs$Suburb", name := "allLeftOf", desc := "(I)I" } : MethodName) ({ cls := "BellHeirs$Suburb", name := "allLeftOf", desc := "(I)I" } : MethodName)) ∈ aw_all := aw_4 198 rfl rfl
theorem lk_1039 : (Cond.code ({ cls := "BellHeirs$Suburb", name := "allLeftOf", desc := "(I)I" } : MethodName) prog_10_method_13_code (4 : Nat) (Option.some FieldType.int)) ∈ aw_all := aw_4 199 rfl rfl
theorem lk_1040 : (Cond.methodLink "BellHeirs$Suburb" (111 : Nat) ({ cls := "BellHeirs$Suburb", name := "leftOf", desc := "(II)I" } : MethodName)) ∈ aw_all := aw_4 200 rfl rfl
theorem lk_1041 : (Cond.methodLink "BellHeirs$Deeds" (42 : Nat) ({ cls := "BellHeirs$Suburb", name := "hasHouse", desc := "(I)Z" } : MethodName)) ∈ aw_all := aw_4 201 rfl rfl
theorem lk_1042 : (Cond.methodLink "BellHeirs$Deeds" (148 : Nat) ({ cls := "BellHeirs$Scale", name := "weigh", desc := "(LBellHeirs$Text;II[I)I" } : MethodName)) ∈ aw_all := aw_4 202 rfl rfl
theorem lk_1043 : (Cond.constant "BellHeirs$Deeds" (152 : Nat) (2000000000 : Int32)) ∈ aw_all := aw_4 203 rfl rfl
theorem lk_1044 : (Cond.methodLink "BellHeirs$Deeds" (156 : Nat) ({ cls := "BellHeirs$Deeds", name := "ringBell", desc := "(LBellHeirs$Suburb;LBellHeirs$Log;II)I" } : MethodName)) ∈ aw_all := aw_4 204 rfl rfl
theorem lk_1045 : (Cond.instanceMethod ({ cls := "BellHeirs$Deeds", name := "ringBell", desc := "(LBellHeirs$Suburb;LBellHeirs$Log;II)I" } : MethodName)) ∈ aw_all := aw_4 205 rfl rfl
theorem lk_1046 : (Cond.selects "BellHeirs$Deeds" ({ cls := "BellHeirs$Deeds", name := "ringBell", desc := "(LBellHeirs$Suburb;LBellHeirs$Log;II)I" } : MethodName) ({ cls := "BellHeirs$Deeds", name := "ringBell", desc := "(LBellHeirs$Suburb;LBellHeirs$Log;II)I" } : MethodName)) ∈ aw_all := aw_4 206 rfl rfl
theorem lk_1047 : (Cond.code ({ cls := "BellHeirs$Deeds", name := "ringBell", desc := "(LBellHeirs$Suburb;LBellHeirs$Log;II)I" } : MethodName) prog_3_method_2_code (7 : Nat) (Option.some FieldType.int)) ∈ aw_all := aw_4 207 rfl rfl
theorem lk_1048 : (Cond.methodLink "BellHeirs$Deeds" (48 : Nat) ({ cls := "BellHeirs$Suburb", name := "leftOf", desc := "(II)I" } : MethodName)) ∈ aw_all := aw_4 208 rfl rfl
theorem lk_1049 : (Cond.methodLink "BellHeirs$Deeds" (56 : Nat) ({ cls := "BellHeirs$Deeds", name := "note", desc := "(LBellHeirs$Log;ILBellHeirs$Ledger;)V" } : MethodName)) ∈ aw_all := aw_4 209 rfl rfl
theorem lk_1050 : (Cond.static ({ cls := "BellHeirs$Deeds", name := "note", desc := "(LBellHeirs$Log;ILBellHeirs$Ledger;)V" } : MethodName)) ∈ aw_all := aw_4 210 rfl rfl
theorem lk_1051 : (Cond.code ({ cls := "BellHeirs$Deeds", name := "note", desc := "(LBellHeirs$Log;ILBellHeirs$Ledger;)V" } : MethodName) prog_3_method_8_code (3 : Nat) (Option.none : Option Jvm.ClassFile.FieldType)) ∈ aw_all := aw_4 211 rfl rfl
theorem lk_1052 : (Cond.methodLink "BellHeirs$Deeds" (130 : Nat) ({ cls := "BellHeirs$Log", name := "push", desc := "(ILBellHeirs$Ledger;)V" } : MethodName)) ∈ aw_all := aw_4 212 rfl rfl
theorem lk_1053 : (Cond.instanceMethod ({ cls := "BellHeirs$Log", name := "push", desc := "(ILBellHeirs$Ledger;)V" } : MethodName)) ∈ aw_all := aw_4 213 rfl rfl
theorem lk_1054 : (Cond.selects "BellHeirs$Log" ({ cls := "BellHeirs$Log", name := "push", desc := "(ILBellHeirs$Ledger;)V" } : MethodName) ({ cls := "BellHeirs$Log", name := "push", desc := "(ILBellHeirs$Ledger;)V" } : MethodName)) ∈ aw_all := aw_4 214 rfl rfl
theorem lk_1055 : (Cond.code ({ cls := "BellHeirs$Log", name := "push", desc := "(ILBellHeirs$Ledger;)V" } : MethodName) prog_5_method_2_code (3 : Nat) (Option.none : Option Jvm.ClassFile.FieldType)) ∈ aw_all := aw_4 215 rfl rfl
theorem lk_1057 : (Cond.methodLink "BellHeirs$Log" (29 : Nat) ({ cls := "BellHeirs$Ledger", name := "copyFrom", desc := "(LBellHeirs$Ledger;)V" } : MethodName)) ∈ aw_all := aw_4 217 rfl rfl
theorem lk_1058 : (Cond.methodLink "BellHeirs$Log" (33 : Nat) ({ cls := "java/lang/Math", name := "min", desc := "(II)I" } : MethodName)) ∈ aw_all := aw_4 218 rfl rfl
theorem lk_1059 : (Cond.methodLink "BellHeirs$Deeds" (60 : Nat) ({ cls := "BellHeirs$Asker", name := "opensTo", desc := "(LBellHeirs$Suburb;II)Z" } : MethodName)) ∈ aw_all := aw_4 219 rfl rfl
theorem lk_1060 : (Cond.methodLink "BellHeirs$Deeds" (66 : Nat) ({ cls := "BellHeirs$Asker", name := "tiring", desc := "(LBellHeirs$Suburb;II)I" } : MethodName)) ∈ aw_all := aw_4 220 rfl rfl
theorem lk_1062 : (Cond.methodLink "BellHeirs$Deeds" (81 : Nat) ({ cls := "java/lang/Math", name := "min", desc := "(II)I" } : MethodName)) ∈ aw_all := aw_4 222 rfl rfl
theorem lk_1063 : (Cond.methodLink "BellHeirs$Deeds" (160 : Nat) ({ cls := "BellHeirs$Deeds", name := "sellRing", desc := "(LBellHeirs$Suburb;LBellHeirs$Log;III)I" } : MethodName)) ∈ aw_all := aw_4 223 rfl rfl
theorem lk_1064 : (Cond.instanceMethod ({ cls := "BellHeirs$Deeds", name := "sellRing", desc := "(LBellHeirs$Suburb;LBellHeirs$Log;III)I" } : MethodName)) ∈ aw_all := aw_4 224 rfl rfl
theorem lk_1065 : (Cond.selects "BellHeirs$Deeds" ({ cls := "BellHeirs$Deeds", name := "sellRing", desc := "(LBellHeirs$Suburb;LBellHeirs$Log;III)I" } : MethodName) ({ cls := "BellHeirs$Deeds", name := "sellRing", desc := "(LBellHeirs$Suburb;LBellHeirs$Log;III)I" } : MethodName)) ∈ aw_all := aw_4 225 rfl rfl
theorem lk_1066 : (Cond.code ({ cls := "BellHeirs$Deeds", name := "sellRing", desc := "(LBellHeirs$Suburb;LBellHeirs$Log;III)I" } : MethodName) prog_3_method_3_code (8 : Nat) (Option.some FieldType.int)) ∈ aw_all := aw_4 226 rfl rfl
theorem lk_1067 : (Cond.methodLink "BellHeirs$Deeds" (86 : Nat) ({ cls := "BellHeirs$Deeds", name := "canBuy", desc := "(LBellHeirs$Suburb;III)Z" } : MethodName)) ∈ aw_all := aw_4 227 rfl rfl
theorem lk_1068 : (Cond.methodLink "BellHeirs$Deeds" (164 : Nat) ({ cls := "BellHeirs$Deeds", name := "bury", desc := "(LBellHeirs$Suburb;LBellHeirs$Log;I)I" } : MethodName)) ∈ aw_all := aw_4 228 rfl rfl
theorem lk_1069 : (Cond.instanceMethod ({ cls := "BellHeirs$Deeds", name := "bury", desc := "(LBellHeirs$Suburb;LBellHeirs$Log;I)I" } : MethodName)) ∈ aw_all := aw_4 229 rfl rfl
theorem lk_1070 : (Cond.selects "BellHeirs$Deeds" ({ cls := "BellHeirs$Deeds", name := "bury", desc := "(LBellHeirs$Suburb;LBellHeirs$Log;I)I" } : MethodName) ({ cls := "BellHeirs$Deeds", name := "bury", desc := "(LBellHeirs$Suburb;LBellHeirs$Log;I)I" } : MethodName)) ∈ aw_all := aw_4 230 rfl rfl
theorem lk_1071 : (Cond.code ({ cls := "BellHeirs$Deeds", name := "bury", desc := "(LBellHeirs$Suburb;LBellHeirs$Log;I)I" } : MethodName) prog_3_method_5_code (8 : Nat) (Option.some FieldType.int)) ∈ aw_all := aw_4 231 rfl rfl
theorem lk_1072 : (Cond.methodLink "BellHeirs$Deeds" (106 : Nat) ({ cls := "BellHeirs$Suburb", name := "livingHeirs", desc := "(I)I" } : MethodName)) ∈ aw_all := aw_4 232 rfl rfl
theorem lk_1073 : (Cond.instanceMethod ({ cls := "BellHeirs$Suburb", name := "livingHeirs", desc := "(I)I" } : MethodName)) ∈ aw_all := aw_4 233 rfl rfl
theorem lk_1074 : (Cond.selects "BellHeirs$Suburb" ({ cls := "BellHeirs$Suburb", name := "livingHeirs", desc := "(I)I" } : MethodName) ({ cls := "BellHeirs$Suburb", name := "livingHeirs", desc := "(I)I" } : MethodName)) ∈ aw_all := aw_4 234 rfl rfl
theorem lk_1075 : (Cond.code ({ cls := "BellHeirs$Suburb", name := "livingHeirs", desc := "(I)I" } : MethodName) prog_10_method_16_code (4 : Nat) (Option.some FieldType.int)) ∈ aw_all := aw_4 235 rfl rfl
theorem lk_1076 : (Cond.methodLink "BellHeirs$Suburb" (120 : Nat) ({ cls := "BellHeirs$Suburb", name := "isLivingHeir", desc := "(II)Z" } : MethodName)) ∈ aw_all := aw_4 236 rfl rfl
theorem lk_1077 : (Cond.instanceMethod ({ cls := "BellHeirs$Suburb", name := "isLivingHeir", desc := "(II)Z" } : MethodName)) ∈ aw_all := aw_4 237 rfl rfl
theorem lk_1078 : (Cond.selects "BellHeirs$Suburb" ({ cls := "BellHeirs$Suburb", name := "isLivingHeir", desc := "(II)Z" } : MethodName) ({ cls := "BellHeirs$Suburb", name := "isLivingHeir", desc := "(II)Z" } : MethodName)) ∈ aw_all := aw_4 238 rfl rfl
theorem lk_1079 : (Cond.code ({ cls := "BellHeirs$Suburb", name := "isLivingHeir", desc := "(II)Z" } : MethodName) prog_10_method_17_code (3 : Nat) (Option.some FieldType.boolean)) ∈ aw_all := aw_4 239 rfl rfl
theorem lk_1080 : (Cond.methodLink "BellHeirs$Deeds" (113 : Nat) ({ cls := "BellHeirs$Deeds", name := "divide", desc := "(LBellHeirs$Suburb;IIII)V" } : MethodName)) ∈ aw_all := aw_5 0 rfl rfl
theorem lk_1081 : (Cond.static ({ cls := "BellHeirs$Deeds", name := "divide", desc := "(LBellHeirs$Suburb;IIII)V" } : MethodName)) ∈ aw_all := aw_5 1 rfl rfl
theorem lk_1082 : (Cond.code ({ cls := "BellHeirs$Deeds", name := "divide", desc := "(LBellHeirs$Suburb;IIII)V" } : MethodName) prog_3_method_6_code (9 : Nat) (Option.none : Option Jvm.ClassFile.FieldType)) ∈ aw_all := aw_5 2 rfl rfl
theorem lk_1083 : (Cond.methodLink "BellHeirs$Deeds" (123 : Nat) ({ cls := "BellHeirs$Suburb", name := "isLivingHeir", desc := "(II)Z" } : MethodName)) ∈ aw_all := aw_5 3 rfl rfl
theorem lk_1084 : (Cond.methodLink "BellHeirs$Deeds" (168 : Nat) ({ cls := "BellHeirs$Deeds", name := "turnYear", desc := "(LBellHeirs$Suburb;LBellHeirs$Log;)I" } : MethodName)) ∈ aw_all := aw_5 4 rfl rfl
theorem lk_1085 : (Cond.instanceMethod ({ cls := "BellHeirs$Deeds", name := "turnYear", desc := "(LBellHeirs$Suburb;LBellHeirs$Log;)I" } : MethodName)) ∈ aw_all := aw_5 5 rfl rfl
theorem lk_1086 : (Cond.selects "BellHeirs$Deeds" ({ cls := "BellHeirs$Deeds", name := "turnYear", desc := "(LBellHeirs$Suburb;LBellHeirs$Log;)I" } : MethodName) ({ cls := "BellHeirs$Deeds", name := "turnYear", desc := "(LBellHeirs$Suburb;LBellHeirs$Log;)I" } : MethodName)) ∈ aw_all := aw_5 6 rfl rfl
theorem lk_1087 : (Cond.code ({ cls := "BellHeirs$Deeds", name := "turnYear", desc := "(LBellHeirs$Suburb;LBellHeirs$Log;)I" } : MethodName) prog_3_method_7_code (5 : Nat) (Option.some FieldType.int)) ∈ aw_all := aw_5 7 rfl rfl
theorem lk_1088 : (Cond.methodLink "BellHeirsLaw" (83 : Nat) ({ cls := "BellHeirs", name := "fault", desc := "()I" } : MethodName)) ∈ aw_all := aw_5 8 rfl rfl
theorem lk_1089 : (Cond.instanceMethod ({ cls := "BellHeirs", name := "fault", desc := "()I" } : MethodName)) ∈ aw_all := aw_5 9 rfl rfl
theorem lk_1090 : (Cond.selects "BellHeirs" ({ cls := "BellHeirs", name := "fault", desc := "()I" } : MethodName) ({ cls := "BellHeirs", name := "fault", desc := "()I" } : MethodName)) ∈ aw_all := aw_5 10 rfl rfl
theorem lk_1091 : (Cond.code ({ cls := "BellHeirs", name := "fault", desc := "()I" } : MethodName) prog_1_method_18_code (1 : Nat) (Option.some FieldType.int)) ∈ aw_all := aw_5 11 rfl rfl
theorem lk_1092 : (Cond.methodLink "BellHeirsLaw" (87 : Nat) ({ cls := "BellHeirs", name := "stopped", desc := "()I" } : MethodName)) ∈ aw_all := aw_5 12 rfl rfl
theorem lk_1093 : (Cond.instanceMethod ({ cls := "BellHeirs", name := "stopped", desc := "()I" } : MethodName)) ∈ aw_all := aw_5 13 rfl rfl
theorem lk_1094 : (Cond.selects "BellHeirs" ({ cls := "BellHeirs", name := "stopped", desc := "()I" } : MethodName) ({ cls := "BellHeirs", name := "stopped", desc := "()I" } : MethodName)) ∈ aw_all := aw_5 14 rfl rfl
theorem lk_1095 : (Cond.code ({ cls := "BellHeirs", name := "stopped", desc := "()I" } : MethodName) prog_1_method_19_code (1 : Nat) (Option.some FieldType.int)) ∈ aw_all := aw_5 15 rfl rfl
theorem lk_1096 : (Cond.methodLink "BellHeirsLaw" (91 : Nat) ({ cls := "BellHeirs", name := "force", desc := "(I)I" } : MethodName)) ∈ aw_all := aw_5 16 rfl rfl
theorem lk_1097 : (Cond.instanceMethod ({ cls := "BellHeirs", name := "force", desc := "(I)I" } : MethodName)) ∈ aw_all := aw_5 17 rfl rfl
theorem lk_1098 : (Cond.selects "BellHeirs" ({ cls := "BellHeirs", name := "force", desc := "(I)I" } : MethodName) ({ cls := "BellHeirs", name := "force", desc := "(I)I" } : MethodName)) ∈ aw_all := aw_5 18 rfl rfl
theorem lk_1099 : (Cond.code ({ cls := "BellHeirs", name := "force", desc := "(I)I" } : MethodName) prog_1_method_20_code (3 : Nat) (Option.some FieldType.int)) ∈ aw_all := aw_5 19 rfl rfl
theorem lk_1100 : (Cond.methodLink "BellHeirsLaw" (95 : Nat) ({ cls := "BellHeirs", name := "ring", desc := "(II)I" } : MethodName)) ∈ aw_all := aw_5 20 rfl rfl
theorem lk_1101 : (Cond.instanceMethod ({ cls := "BellHeirs", name := "ring", desc := "(II)I" } : MethodName)) ∈ aw_all := aw_5 21 rfl rfl
theorem lk_1102 : (Cond.selects "BellHeirs" ({ cls := "BellHeirs", name := "ring", desc := "(II)I" } : MethodName) ({ cls := "BellHeirs", name := "ring", desc := "(II)I" } : MethodName)) ∈ aw_all := aw_5 22 rfl rfl
theorem lk_1103 : (Cond.code ({ cls := "BellHeirs", name := "ring", desc := "(II)I" } : MethodName) prog_1_method_21_code (3 : Nat) (Option.some FieldType.int)) ∈ aw_all := aw_5 23 rfl rfl
theorem lk_1104 : (Cond.methodLink "BellHeirs" (267 : Nat) ({ cls := "BellHeirs$Deeds", name := "ringBell", desc := "(LBellHeirs$Suburb;LBellHeirs$Log;II)I" } : MethodName)) ∈ aw_all := aw_5 24 rfl rfl
theorem lk_1105 : (Cond.methodLink "BellHeirs" (271 : Nat) ({ cls := "BellHeirs", name := "tell", desc := "(I)I" } : MethodName)) ∈ aw_all := aw_5 25 rfl rfl
theorem lk_1107 : (Cond.instanceMethod ({ cls := "BellHeirs", name := "tell", desc := "(I)I" } : MethodName)) ∈ aw_all := aw_5 27 rfl rfl
theorem lk_1108 : (Cond.code ({ cls := "BellHeirs", name := "tell", desc := "(I)I" } : MethodName) prog_1_method_45_code (2 : Nat) (Option.some FieldType.int)) ∈ aw_all := aw_5 28 rfl rfl
theorem lk_1109 : (Cond.methodLink "BellHeirsLaw" (99 : Nat) ({ cls := "BellHeirs", name := "sell", desc := "(III)I" } : MethodName)) ∈ aw_all := aw_5 29 rfl rfl
theorem lk_1110 : (Cond.instanceMethod ({ cls := "BellHeirs", name := "sell", desc := "(III)I" } : MethodName)) ∈ aw_all := aw_5 30 rfl rfl
theorem lk_1111 : (Cond.selects "BellHeirs" ({ cls := "BellHeirs", name := "sell", desc := "(III)I" } : MethodName) ({ cls := "BellHeirs", name := "sell", desc := "(III)I" } : MethodName)) ∈ aw_all := aw_5 31 rfl rfl
theorem lk_1112 : (Cond.code ({ cls := "BellHeirs", name := "sell", desc := "(III)I" } : MethodName) prog_1_method_22_code (4 : Nat) (Option.some FieldType.int)) ∈ aw_all := aw_5 32 rfl rfl
theorem lk_1113 : (Cond.methodLink "BellHeirs" (274 : Nat) ({ cls := "BellHeirs$Deeds", name := "sellRing", desc := "(LBellHeirs$Suburb;LBellHeirs$Log;III)I" } : MethodName)) ∈ aw_all := aw_5 33 rfl rfl
theorem lk_1114 : (Cond.methodLink "BellHeirsLaw" (103 : Nat) ({ cls := "BellHeirs", name := "die", desc := "(I)I" } : MethodName)) ∈ aw_all := aw_5 34 rfl rfl
theorem lk_1115 : (Cond.instanceMethod ({ cls := "BellHeirs", name := "die", desc := "(I)I" } : MethodName)) ∈ aw_all := aw_5 35 rfl rfl
theorem lk_1116 : (Cond.selects "BellHeirs" ({ cls := "BellHeirs", name := "die", desc := "(I)I" } : MethodName) ({ cls := "BellHeirs", name := "die", desc := "(I)I" } : MethodName)) ∈ aw_all := aw_5 36 rfl rfl
theorem lk_1117 : (Cond.code ({ cls := "BellHeirs", name := "die", desc := "(I)I" } : MethodName) prog_1_method_23_code (2 : Nat) (Option.some FieldType.int)) ∈ aw_all := aw_5 37 rfl rfl
theorem lk_1118 : (Cond.methodLink "BellHeirs" (278 : Nat) ({ cls := "BellHeirs$Deeds", name := "bury", desc := "(LBellHeirs$Suburb;LBellHeirs$Log;I)I" } : MethodName)) ∈ aw_all := aw_5 38 rfl rfl
theorem lk_1119 : (Cond.methodLink "BellHeirsLaw" (107 : Nat) ({ cls := "BellHeirs", name := "pass", desc := "()I" } : MethodName)) ∈ aw_all := aw_5 39 rfl rfl
theorem lk_1120 : (Cond.instanceMethod ({ cls := "BellHeirs", name := "pass", desc := "()I" } : MethodName)) ∈ aw_all := aw_5 40 rfl rfl
theorem lk_1121 : (Cond.selects "BellHeirs" ({ cls := "BellHeirs", name := "pass", desc := "()I" } : MethodName) ({ cls := "BellHeirs", name := "pass", desc := "()I" } : MethodName)) ∈ aw_all := aw_5 41 rfl rfl
theorem lk_1122 : (Cond.code ({ cls := "BellHeirs", name := "pass", desc := "()I" } : MethodName) prog_1_method_24_code (1 : Nat) (Option.some FieldType.int)) ∈ aw_all := aw_5 42 rfl rfl
theorem lk_1123 : (Cond.methodLink "BellHeirs" (282 : Nat) ({ cls := "BellHeirs$Deeds", name := "turnYear", desc := "(LBellHeirs$Suburb;LBellHeirs$Log;)I" } : MethodName)) ∈ aw_all := aw_5 43 rfl rfl
theorem lk_1124 : (Cond.methodLink "BellHeirsLaw" (111 : Nat) ({ cls := "BellHeirs", name := "undo", desc := "()I" } : MethodName)) ∈ aw_all := aw_5 44 rfl rfl
theorem lk_1125 : (Cond.instanceMethod ({ cls := "BellHeirs", name := "undo", desc := "()I" } : MethodName)) ∈ aw_all := aw_5 45 rfl rfl
theorem lk_1126 : (Cond.selects "BellHeirs" ({ cls := "BellHeirs", name := "undo", desc := "()I" } : MethodName) ({ cls := "BellHeirs", name := "undo", desc := "()I" } : MethodName)) ∈ aw_all := aw_5 46 rfl rfl
theorem lk_1127 : (Cond.code ({ cls := "BellHeirs", name := "undo", desc := "()I" } : MethodName) prog_1_method_25_code (2 : Nat) (Option.some FieldType.int)) ∈ aw_all := aw_5 47 rfl rfl
theorem lk_1128 : (Cond.methodLink "BellHeirs" (286 : Nat) ({ cls := "BellHeirs$Log", name := "takeBack", desc := "(LBellHeirs$Ledger;)I" } : MethodName)) ∈ aw_all := aw_5 48 rfl rfl
theorem lk_1129 : (Cond.instanceMethod ({ cls := "BellHeirs$Log", name := "takeBack", desc := "(LBellHeirs$Ledger;)I" } : MethodName)) ∈ aw_all := aw_5 49 rfl rfl
theorem lk_1130 : (Cond.selects "BellHeirs$Log" ({ cls := "BellHeirs$Log", name := "takeBack", desc := "(LBellHeirs$Ledger;)I" } : MethodName) ({ cls := "BellHeirs$Log", name := "takeBack", desc := "(LBellHeirs$Ledger;)I" } : MethodName)) ∈ aw_all := aw_5 50 rfl rfl
theorem lk_1131 : (Cond.code ({ cls := "BellHeirs$Log", name := "takeBack", desc := "(LBellHeirs$Ledger;)I" } : MethodName) prog_5_method_3_code (3 : Nat) (Option.some FieldType.int)) ∈ aw_all := aw_5 51 rfl rfl
theorem lk_1132 : (Cond.methodLink "BellHeirsLaw" (115 : Nat) ({ cls := "BellHeirs", name := "visits", desc := "(III)I" } : MethodName)) ∈ aw_all := aw_5 52 rfl rfl
theorem lk_1133 : (Cond.instanceMethod ({ cls := "BellHeirs", name := "visits", desc := "(III)I" } : MethodName)) ∈ aw_all := aw_5 53 rfl rfl
theorem lk_1134 : (Cond.selects "BellHeirs" ({ cls := "BellHeirs", name := "visits", desc := "(III)I" } : MethodName) ({ cls := "BellHeirs", name := "visits", desc := "(III)I" } : MethodName)) ∈ aw_all := aw_5 54 rfl rfl
theorem lk_1135 : (Cond.code ({ cls := "BellHeirs", name := "visits", desc := "(III)I" } : MethodName) prog_1_method_26_code (4 : Nat) (Option.some FieldType.int)) ∈ aw_all := aw_5 55 rfl rfl
theorem lk_1136 : (Cond.methodLink "BellHeirs" (290 : Nat) ({ cls := "BellHeirs$Plans", name := "findVisits", desc := "(LBellHeirs$Suburb;II)V" } : MethodName)) ∈ aw_all := aw_5 56 rfl rfl
theorem lk_1137 : (Cond.instanceMethod ({ cls := "BellHeirs$Plans", name := "findVisits", desc := "(LBellHeirs$Suburb;II)V" } : MethodName)) ∈ aw_all := aw_5 57 rfl rfl
theorem lk_1138 : (Cond.selects "BellHeirs$Plans" ({ cls := "BellHeirs$Plans", name := "findVisits", desc := "(LBellHeirs$Suburb;II)V" } : MethodName) ({ cls := "BellHeirs$Plans", name := "findVisits", desc := "(LBellHeirs$Suburb;II)V" } : MethodName)) ∈ aw_all := aw_5 58 rfl rfl
theorem lk_1139 : (Cond.code ({ cls := "BellHeirs$Plans", name := "findVisits", desc := "(LBellHeirs$Suburb;II)V" } : MethodName) prog_6_method_2_code (4 : Nat) (Option.none : Option Jvm.ClassFile.FieldType)) ∈ aw_all := aw_5 59 rfl rfl
theorem lk_1140 : (Cond.methodLink "BellHeirs$Plans" (46 : Nat) ({ cls := "BellHeirs$Suburb", name := "hasPerson", desc := "(I)Z" } : MethodName)) ∈ aw_all := aw_5 60 rfl rfl
theorem lk_1141 : (Cond.methodLink "BellHeirs$Plans" (55 : Nat) ({ cls := "BellHeirs$Plans", name := "walk", desc := "(LBellHeirs$Suburb;IIIII)V" } : MethodName)) ∈ aw_all := aw_5 61 rfl rfl
theorem lk_1143 : (Cond.instanceMethod ({ cls := "BellHeirs$Plans", name := "walk", desc := "(LBellHeirs$Suburb;IIIII)V" } : MethodName)) ∈ aw_all := aw_5 63 rfl rfl
theorem lk_1144 : (Cond.code ({ cls := "BellHeirs$Plans", name := "walk", desc := "(LBellHeirs$Suburb;IIIII)V" } : MethodName) prog_6_method_3_code (9 : Nat) (Option.none : Option Jvm.ClassFile.FieldType)) ∈ aw_all := aw_5 64 rfl rfl
theorem lk_1145 : (Cond.methodLink "BellHeirs$Plans" (59 : Nat) ({ cls := "java/lang/System", name := "arraycopy", desc := "(Ljava/lang/Object;ILjava/lang/Object;II)V" } : MethodName)) ∈ aw_all := aw_5 65 rfl rfl
theorem lk_1147 : (Cond.static ({ cls := "BellHeirs", name := "stepsBetween", desc := "(II)I" } : MethodName)) ∈ aw_all := aw_5 67 rfl rfl
theorem lk_1148 : (Cond.code ({ cls := "BellHeirs", name := "stepsBetween", desc := "(II)I" } : MethodName) prog_1_method_52_code (2 : Nat) (Option.some FieldType.int)) ∈ aw_all := aw_5 68 rfl rfl
theorem lk_1149 : (Cond.methodLink "BellHeirs" (390 : Nat) ({ cls := "java/lang/Math", name := "abs", desc := "(I)I" } : MethodName)) ∈ aw_all := aw_5 69 rfl rfl
theorem lk_1150 : (Cond.static ({ cls := "java/lang/Math", name := "abs", desc := "(I)I" } : MethodName)) ∈ aw_all := aw_5 70 rfl rfl
theorem lk_1151 : (Cond.code ({ cls := "java/lang/Math", name := "abs", desc := "(I)I" } : MethodName) prog_16_method_59_code (1 : Nat) (Option.some FieldType.int)) ∈ aw_all := aw_5 71 rfl rfl
theorem lk_1153 : (Cond.methodLink "BellHeirs$Plans" (79 : Nat) ({ cls := "BellHeirs$Suburb", name := "leftOf", desc := "(II)I" } : MethodName)) ∈ aw_all := aw_5 73 rfl rfl
theorem lk_1154 : (Cond.methodLink "BellHeirsLaw" (119 : Nat) ({ cls := "BellHeirs", name := "exchange", desc := "(I)I" } : MethodName)) ∈ aw_all := aw_5 74 rfl rfl
theorem lk_1155 : (Cond.instanceMethod ({ cls := "BellHeirs", name := "exchange", desc := "(I)I" } : MethodName)) ∈ aw_all := aw_5 75 rfl rfl
theorem lk_1156 : (Cond.selects "BellHeirs" ({ cls := "BellHeirs", name := "exchange", desc := "(I)I" } : MethodName) ({ cls := "BellHeirs", name := "exchange", desc := "(I)I" } : MethodName)) ∈ aw_all := aw_5 76 rfl rfl
theorem lk_1157 : (Cond.code ({ cls := "BellHeirs", name := "exchange", desc := "(I)I" } : MethodName) prog_1_method_27_code (2 : Nat) (Option.some FieldType.int)) ∈ aw_all := aw_5 77 rfl rfl
theorem lk_1158 : (Cond.methodLink "BellHeirs" (300 : Nat) ({ cls := "BellHeirs$Plans", name := "findExchange", desc := "(LBellHeirs$Suburb;)I" } : MethodName)) ∈ aw_all := aw_5 78 rfl rfl
theorem lk_1159 : (Cond.instanceMethod ({ cls := "BellHeirs$Plans", name := "findExchange", desc := "(LBellHeirs$Suburb;)I" } : MethodName)) ∈ aw_all := aw_5 79 rfl rfl
theorem lk_1160 : (Cond.selects "BellHeirs$Plans" ({ cls := "BellHeirs$Plans", name := "findExchange", desc := "(LBellHeirs$Suburb;)I" } : MethodName) ({ cls := "BellHeirs$Plans", name := "findExchange", desc := "(LBellHeirs$Suburb;)I" } : MethodName)) ∈ aw_all := aw_5 80 rfl rfl
theorem lk_1161 : (Cond.code ({ cls := "BellHeirs$Plans", name := "findExchange", desc := "(LBellHeirs$Suburb;)I" } : MethodName) prog_6_method_4_code (8 : Nat) (Option.some FieldType.int)) ∈ aw_all := aw_5 81 rfl rfl
theorem lk_1162 : (Cond.methodLink "BellHeirs$Plans" (85 : Nat) ({ cls := "java/lang/Integer", name := "bitCount", desc := "(I)I" } : MethodName)) ∈ aw_all := aw_5 82 rfl rfl
theorem lk_1163 : (Cond.static ({ cls := "java/lang/Integer", name := "bitCount", desc := "(I)I" } : MethodName)) ∈ aw_all := aw_5 83 rfl rfl
theorem lk_1164 : (Cond.code ({ cls := "java/lang/Integer", name := "bitCount", desc := "(I)I" } : MethodName) prog_15_method_49_code (1 : Nat) (Option.some FieldType.int)) ∈ aw_all := aw_5 84 rfl rfl
theorem lk_1165 : (Cond.constant "java/lang/Integer" (265 : Nat) (1431655765 : Int32)) ∈ aw_all := aw_5 85 rfl rfl
theorem lk_1166 : (Cond.constant "java/lang/Integer" (266 : Nat) (858993459 : Int32)) ∈ aw_all := aw_5 86 rfl rfl
theorem lk_1167 : (Cond.constant "java/lang/Integer" (267 : Nat) (252645135 : Int32)) ∈ aw_all := aw_5 87 rfl rfl
theorem lk_1168 : (Cond.methodLink "BellHeirs$Plans" (91 : Nat) ({ cls := "BellHeirs$Plans", name := "mostIfGives", desc := "(LBellHeirs$Suburb;III)I" } : MethodName)) ∈ aw_all := aw_5 88 rfl rfl
theorem lk_1170 : (Cond.instanceMethod ({ cls := "BellHeirs$Plans", name := "mostIfGives", desc := "(LBellHeirs$Suburb;III)I" } : MethodName)) ∈ aw_all := aw_5 90 rfl rfl
theorem lk_1171 : (Cond.code ({ cls := "BellHeirs$Plans", name := "mostIfGives", desc := "(LBellHeirs$Suburb;III)I" } : MethodName) prog_6_method_6_code (6 : Nat) (Option.some FieldType.int)) ∈ aw_all := aw_5 91 rfl rfl
theorem lk_1172 : (Cond.methodLink "BellHeirs$Plans" (104 : Nat) ({ cls := "BellHeirs$Plans", name := "canGive", desc := "(LBellHeirs$Suburb;II)Z" } : MethodName)) ∈ aw_all := aw_5 92 rfl rfl
theorem lk_1173 : (Cond.static ({ cls := "BellHeirs$Plans", name := "canGive", desc := "(LBellHeirs$Suburb;II)Z" } : MethodName)) ∈ aw_all := aw_5 93 rfl rfl
theorem lk_1174 : (Cond.code ({ cls := "BellHeirs$Plans", name := "canGive", desc := "(LBellHeirs$Suburb;II)Z" } : MethodName) prog_6_method_7_code (3 : Nat) (Option.some FieldType.boolean)) ∈ aw_all := aw_5 94 rfl rfl
theorem lk_1175 : (Cond.methodLink "BellHeirs$Plans" (108 : Nat) ({ cls := "BellHeirs$Suburb", name := "lives", desc := "(I)Z" } : MethodName)) ∈ aw_all := aw_5 95 rfl rfl
theorem lk_1176 : (Cond.methodLink "BellHeirs$Plans" (95 : Nat) ({ cls := "java/lang/Math", name := "max", desc := "(II)I" } : MethodName)) ∈ aw_all := aw_5 96 rfl rfl
theorem lk_1177 : (Cond.methodLink "BellHeirs$Plans" (100 : Nat) ({ cls := "BellHeirs$Plans", name := "firstBestGiver", desc := "(LBellHeirs$Suburb;II)I" } : MethodName)) ∈ aw_all := aw_5 97 rfl rfl
theorem lk_1179 : (Cond.instanceMethod ({ cls := "BellHeirs$Plans", name := "firstBestGiver", desc := "(LBellHeirs$Suburb;II)I" } : MethodName)) ∈ aw_all := aw_5 99 rfl rfl
theorem lk_1180 : (Cond.code ({ cls := "BellHeirs$Plans", name := "firstBestGiver", desc := "(LBellHeirs$Suburb;II)I" } : MethodName) prog_6_method_5_code (5 : Nat) (Option.some FieldType.int)) ∈ aw_all := aw_5 100 rfl rfl
theorem lk_1181 : (Cond.methodLink "BellHeirsLaw" (123 : Nat) ({ cls := "BellHeirs", name := "clue", desc := "(II)I" } : MethodName)) ∈ aw_all := aw_5 101 rfl rfl
theorem lk_1182 : (Cond.instanceMethod ({ cls := "BellHeirs", name := "clue", desc := "(II)I" } : MethodName)) ∈ aw_all := aw_5 102 rfl rfl
theorem lk_1183 : (Cond.selects "BellHeirs" ({ cls := "BellHeirs", name := "clue", desc := "(II)I" } : MethodName) ({ cls := "BellHeirs", name := "clue", desc := "(II)I" } : MethodName)) ∈ aw_all := aw_5 103 rfl rfl
theorem lk_1184 : (Cond.code ({ cls := "BellHeirs", name := "clue", desc := "(II)I" } : MethodName) prog_1_method_28_code (3 : Nat) (Option.some FieldType.int)) ∈ aw_all := aw_5 104 rfl rfl
theorem lk_1185 : (Cond.methodLink "BellHeirsLaw" (127 : Nat) ({ cls := "BellHeirs", name := "forget", desc := "()I" } : MethodName)) ∈ aw_all := aw_5 105 rfl rfl
theorem lk_1186 : (Cond.instanceMethod ({ cls := "BellHeirs", name := "forget", desc := "()I" } : MethodName)) ∈ aw_all := aw_5 106 rfl rfl
theorem lk_1187 : (Cond.selects "BellHeirs" ({ cls := "BellHeirs", name := "forget", desc := "()I" } : MethodName) ({ cls := "BellHeirs", name := "forget", desc := "()I" } : MethodName)) ∈ aw_all := aw_5 107 rfl rfl
theorem lk_1188 : (Cond.code ({ cls := "BellHeirs", name := "forget", desc := "()I" } : MethodName) prog_1_method_29_code (2 : Nat) (Option.some FieldType.int)) ∈ aw_all := aw_5 108 rfl rfl
theorem lk_1189 : (Cond.methodLink "BellHeirsLaw" (131 : Nat) ({ cls := "BellHeirs", name := "who", desc := "()I" } : MethodName)) ∈ aw_all := aw_5 109 rfl rfl
theorem lk_1190 : (Cond.instanceMethod ({ cls := "BellHeirs", name := "who", desc := "()I" } : MethodName)) ∈ aw_all := aw_5 110 rfl rfl
theorem lk_1191 : (Cond.selects "BellHeirs" ({ cls := "BellHeirs", name := "who", desc := "()I" } : MethodName) ({ cls := "BellHeirs", name := "who", desc := "()I" } : MethodName)) ∈ aw_all := aw_5 111 rfl rfl
theorem lk_1192 : (Cond.code ({ cls := "BellHeirs", name := "who", desc := "()I" } : MethodName) prog_1_method_30_code (1 : Nat) (Option.some FieldType.int)) ∈ aw_all := aw_5 112 rfl rfl
theorem lk_1193 : (Cond.methodLink "BellHeirs" (316 : Nat) ({ cls := "BellHeirs$Suburb", name := "suspects", desc := "()I" } : MethodName)) ∈ aw_all := aw_5 113 rfl rfl
theorem lk_1194 : (Cond.instanceMethod ({ cls := "BellHeirs$Suburb", name := "suspects", desc := "()I" } : MethodName)) ∈ aw_all := aw_5 114 rfl rfl
theorem lk_1195 : (Cond.selects "BellHeirs$Suburb" ({ cls := "BellHeirs$Suburb", name := "suspects", desc := "()I" } : MethodName) ({ cls := "BellHeirs$Suburb", name := "suspects", desc := "()I" } : MethodName)) ∈ aw_all := aw_5 115 rfl rfl
theorem lk_1196 : (Cond.code ({ cls := "BellHeirs$Suburb", name := "suspects", desc := "()I" } : MethodName) prog_10_method_18_code (3 : Nat) (Option.some FieldType.int)) ∈ aw_all := aw_5 116 rfl rfl
theorem lk_1197 : (Cond.methodLink "BellHeirs$Suburb" (123 : Nat) ({ cls := "BellHeirs$Suburb", name := "couldWalk", desc := "(I)Z" } : MethodName)) ∈ aw_all := aw_5 117 rfl rfl
theorem lk_1199 : (Cond.instanceMethod ({ cls := "BellHeirs$Suburb", name := "couldWalk", desc := "(I)Z" } : MethodName)) ∈ aw_all := aw_5 119 rfl rfl
theorem lk_1200 : (Cond.code ({ cls := "BellHeirs$Suburb", name := "couldWalk", desc := "(I)Z" } : MethodName) prog_10_method_19_code (5 : Nat) (Option.some FieldType.boolean)) ∈ aw_all := aw_5 120 rfl rfl
theorem lk_1202 : (Cond.methodLink "BellHeirs$Suburb" (126 : Nat) ({ cls := "BellHeirs$Suburb", name := "hasRingsForClues", desc := "(I)Z" } : MethodName)) ∈ aw_all := aw_5 122 rfl rfl
theorem lk_1204 : (Cond.instanceMethod ({ cls := "BellHeirs$Suburb", name := "hasRingsForClues", desc := "(I)Z" } : MethodName)) ∈ aw_all := aw_5 124 rfl rfl
theorem lk_1205 : (Cond.code ({ cls := "BellHeirs$Suburb", name := "hasRingsForClues", desc := "(I)Z" } : MethodName) prog_10_method_20_code (5 : Nat) (Option.some FieldType.boolean)) ∈ aw_all := aw_5 125 rfl rfl
theorem lk_1206 : (Cond.methodLink "BellHeirsLaw" (135 : Nat) ({ cls := "BellHeirs", name := "look", desc := "(I)I" } : MethodName)) ∈ aw_all := aw_5 126 rfl rfl
theorem lk_1207 : (Cond.instanceMethod ({ cls := "BellHeirs", name := "look", desc := "(I)I" } : MethodName)) ∈ aw_all := aw_5 127 rfl rfl
theorem lk_1208 : (Cond.selects "BellHeirs" ({ cls := "BellHeirs", name := "look", desc := "(I)I" } : MethodName) ({ cls := "BellHeirs", name := "look", desc := "(I)I" } : MethodName)) ∈ aw_all := aw_5 128 rfl rfl
theorem lk_1209 : (Cond.code ({ cls := "BellHeirs", name := "look", desc := "(I)I" } : MethodName) prog_1_method_31_code (7 : Nat) (Option.some FieldType.int)) ∈ aw_all := aw_5 129 rfl rfl
theorem lk_1210 : (Cond.methodLink "BellHeirs" (320 : Nat) ({ cls := "BellHeirs$Suburb", name := "remainAtMost", desc := "(II)I" } : MethodName)) ∈ aw_all := aw_5 130 rfl rfl
theorem lk_1211 : (Cond.instanceMethod ({ cls := "BellHeirs$Suburb", name := "remainAtMost", desc := "(II)I" } : MethodName)) ∈ aw_all := aw_5 131 rfl rfl
theorem lk_1212 : (Cond.selects "BellHeirs$Suburb" ({ cls := "BellHeirs$Suburb", name := "remainAtMost", desc := "(II)I" } : MethodName) ({ cls := "BellHeirs$Suburb", name := "remainAtMost", desc := "(II)I" } : MethodName)) ∈ aw_all := aw_5 132 rfl rfl
theorem lk_1213 : (Cond.code ({ cls := "BellHeirs$Suburb", name := "remainAtMost", desc := "(II)I" } : MethodName) prog_10_method_21_code (6 : Nat) (Option.some FieldType.int)) ∈ aw_all := aw_5 133 rfl rfl
theorem lk_1214 : (Cond.methodLink "BellHeirs$Suburb" (132 : Nat) ({ cls := "java/lang/Math", name := "max", desc := "(II)I" } : MethodName)) ∈ aw_all := aw_5 134 rfl rfl
theorem lk_1215 : (Cond.methodLink "BellHeirsLaw" (139 : Nat) ({ cls := "BellHeirs", name := "amend", desc := "(II)I" } : MethodName)) ∈ aw_all := aw_5 135 rfl rfl
theorem lk_1216 : (Cond.instanceMethod ({ cls := "BellHeirs", name := "amend", desc := "(II)I" } : MethodName)) ∈ aw_all := aw_5 136 rfl rfl
theorem lk_1217 : (Cond.selects "BellHeirs" ({ cls := "BellHeirs", name := "amend", desc := "(II)I" } : MethodName) ({ cls := "BellHeirs", name := "amend", desc := "(II)I" } : MethodName)) ∈ aw_all := aw_5 137 rfl rfl
theorem lk_1218 : (Cond.code ({ cls := "BellHeirs", name := "amend", desc := "(II)I" } : MethodName) prog_1_method_32_code (4 : Nat) (Option.some FieldType.int)) ∈ aw_all := aw_5 138 rfl rfl
theorem lk_1219 : (Cond.methodLink "BellHeirs" (323 : Nat) ({ cls := "BellHeirs$Shares", name := "struckOut", desc := "(LBellHeirs$Suburb;I)I" } : MethodName)) ∈ aw_all := aw_5 139 rfl rfl
theorem lk_1220 : (Cond.instanceMethod ({ cls := "BellHeirs$Shares", name := "struckOut", desc := "(LBellHeirs$Suburb;I)I" } : MethodName)) ∈ aw_all := aw_5 140 rfl rfl
theorem lk_1221 : (Cond.selects "BellHeirs$Shares" ({ cls := "BellHeirs$Shares", name := "struckOut", desc := "(LBellHeirs$Suburb;I)I" } : MethodName) ({ cls := "BellHeirs$Shares", name := "struckOut", desc := "(LBellHeirs$Suburb;I)I" } : MethodName)) ∈ aw_all := aw_5 141 rfl rfl
theorem lk_1222 : (Cond.code ({ cls := "BellHeirs$Shares", name := "struckOut", desc := "(LBellHeirs$Suburb;I)I" } : MethodName) prog_9_method_2_code (8 : Nat) (Option.some FieldType.int)) ∈ aw_all := aw_5 142 rfl rfl
theorem lk_1223 : (Cond.methodLink "BellHeirs$Shares" (34 : Nat) ({ cls := "BellHeirs$Suburb", name := "hasHouse", desc := "(I)Z" } : MethodName)) ∈ aw_all := aw_5 143 rfl rfl
theorem lk_1225 : (Cond.methodLink "BellHeirs$Shares" (45 : Nat) ({ cls := "BellHeirs$Suburb", name := "rightsOf", desc := "(II)I" } : MethodName)) ∈ aw_all := aw_5 145 rfl rfl
theorem lk_1226 : (Cond.methodLink "BellHeirs$Shares" (49 : Nat) ({ cls := "java/lang/Integer", name := "bitCount", desc := "(I)I" } : MethodName)) ∈ aw_all := aw_5 146 rfl rfl
theorem lk_1227 : (Cond.methodLink "BellHeirs" (327 : Nat) ({ cls := "java/lang/Integer", name := "bitCount", desc := "(I)I" } : MethodName)) ∈ aw_all := aw_5 147 rfl rfl
theorem lk_1228 : (Cond.methodLink "BellHeirsLaw" (143 : Nat) ({ cls := "BellHeirs", name := "given", desc := "(III)I" } : MethodName)) ∈ aw_all := aw_5 148 rfl rfl
theorem lk_1229 : (Cond.instanceMethod ({ cls := "BellHeirs", name := "given", desc := "(III)I" } : MethodName)) ∈ aw_all := aw_5 149 rfl rfl
theorem lk_1230 : (Cond.selects "BellHeirs" ({ cls := "BellHeirs", name := "given", desc := "(III)I" } : MethodName) ({ cls := "BellHeirs", name := "given", desc := "(III)I" } : MethodName)) ∈ aw_all := aw_5 150 rfl rfl
theorem lk_1231 : (Cond.code ({ cls := "BellHeirs", name := "given", desc := "(III)I" } : MethodName) prog_1_method_33_code (4 : Nat) (Option.some FieldType.int)) ∈ aw_all := aw_5 151 rfl rfl
theorem lk_1232 : (Cond.methodLink "BellHeirs" (332 : Nat) ({ cls := "BellHeirs$Shares", name := "giveOut", desc := "(LBellHeirs$Suburb;II)V" } : MethodName)) ∈ aw_all := aw_5 152 rfl rfl
theorem lk_1233 : (Cond.instanceMethod ({ cls := "BellHeirs$Shares", name := "giveOut", desc := "(LBellHeirs$Suburb;II)V" } : MethodName)) ∈ aw_all := aw_5 153 rfl rfl
theorem lk_1234 : (Cond.selects "BellHeirs$Shares" ({ cls := "BellHeirs$Shares", name := "giveOut", desc := "(LBellHeirs$Suburb;II)V" } : MethodName) ({ cls := "BellHeirs$Shares", name := "giveOut", desc := "(LBellHeirs$Suburb;II)V" } : MethodName)) ∈ aw_all := aw_5 154 rfl rfl
theorem lk_1235 : (Cond.code ({ cls := "BellHeirs$Shares", name := "giveOut", desc := "(LBellHeirs$Suburb;II)V" } : MethodName) prog_9_method_3_code (8 : Nat) (Option.none : Option Jvm.ClassFile.FieldType)) ∈ aw_all := aw_5 155 rfl rfl
theorem lk_1236 : (Cond.methodLink "BellHeirsLaw" (147 : Nat) ({ cls := "BellHeirs", name := "keep", desc := "(IIII)I" } : MethodName)) ∈ aw_all := aw_5 156 rfl rfl
theorem lk_1237 : (Cond.instanceMethod ({ cls := "BellHeirs", name := "keep", desc := "(IIII)I" } : MethodName)) ∈ aw_all := aw_5 157 rfl rfl
theorem lk_1238 : (Cond.selects "BellHeirs" ({ cls := "BellHeirs", name := "keep", desc := "(IIII)I" } : MethodName) ({ cls := "BellHeirs", name := "keep", desc := "(IIII)I" } : MethodName)) ∈ aw_all := aw_5 158 rfl rfl
theorem lk_1239 : (Cond.code ({ cls := "BellHeirs", name := "keep", desc := "(IIII)I" } : MethodName) prog_1_method_34_code (6 : Nat) (Option.some FieldType.int)) ∈ aw_all := aw_5 159 rfl rfl
theorem lk_1240 : (Cond.methodLink "BellHeirs" (341 : Nat) ({ cls := "BellHeirs$Shares", name := "keepRings", desc := "(II)I" } : MethodName)) ∈ aw_all := aw_5 160 rfl rfl
theorem lk_1241 : (Cond.instanceMethod ({ cls := "BellHeirs$Shares", name := "keepRings", desc := "(II)I" } : MethodName)) ∈ aw_all := aw_5 161 rfl rfl
theorem lk_1242 : (Cond.selects "BellHeirs$Shares" ({ cls := "BellHeirs$Shares", name := "keepRings", desc := "(II)I" } : MethodName) ({ cls := "BellHeirs$Shares", name := "keepRings", desc := "(II)I" } : MethodName)) ∈ aw_all := aw_5 162 rfl rfl
theorem lk_1243 : (Cond.code ({ cls := "BellHeirs$Shares", name := "keepRings", desc := "(II)I" } : MethodName) prog_9_method_4_code (7 : Nat) (Option.some FieldType.int)) ∈ aw_all := aw_5 163 rfl rfl
theorem lk_1244 : (Cond.methodLink "BellHeirs$Shares" (55 : Nat) ({ cls := "BellHeirs$Shares", name := "entry", desc := "(II)I" } : MethodName)) ∈ aw_all := aw_5 164 rfl rfl
theorem lk_1245 : (Cond.static ({ cls := "BellHeirs$Shares", name := "entry", desc := "(II)I" } : MethodName)) ∈ aw_all := aw_5 165 rfl rfl
theorem lk_1246 : (Cond.code ({ cls := "BellHeirs$Shares", name := "entry", desc := "(II)I" } : MethodName) prog_9_method_7_code (2 : Nat) (Option.some FieldType.int)) ∈ aw_all := aw_5 166 rfl rfl
theorem lk_1247 : (Cond.methodLink "BellHeirs$Shares" (58 : Nat) ({ cls := "BellHeirs$Shares", name := "gain", desc := "(II)I" } : MethodName)) ∈ aw_all := aw_5 167 rfl rfl
theorem lk_1249 : (Cond.instanceMethod ({ cls := "BellHeirs$Shares", name := "gain", desc := "(II)I" } : MethodName)) ∈ aw_all := aw_5 169 rfl rfl
theorem lk_1250 : (Cond.code ({ cls := "BellHeirs$Shares", name := "gain", desc := "(II)I" } : MethodName) prog_9_method_6_code (4 : Nat) (Option.some FieldType.int)) ∈ aw_all := aw_5 170 rfl rfl
theorem lk_1251 : (Cond.methodLink "BellHeirs$Shares" (69 : Nat) ({ cls := "java/lang/Math", name := "min", desc := "(II)I" } : MethodName)) ∈ aw_all := aw_5 171 rfl rfl
theorem lk_1252 : (Cond.methodLink "BellHeirs$Shares" (61 : Nat) ({ cls := "java/lang/Math", name := "max", desc := "(II)I" } : MethodName)) ∈ aw_all := aw_5 172 rfl rfl
theorem lk_1253 : (Cond.methodLink "BellHeirs$Shares" (66 : Nat) ({ cls := "BellHeirs$Shares", name := "firstBestUse", desc := "(II)I" } : MethodName)) ∈ aw_all := aw_5 173 rfl rfl
theorem lk_1255 : (Cond.instanceMethod ({ cls := "BellHeirs$Shares", name := "firstBestUse", desc := "(II)I" } : MethodName)) ∈ aw_all := aw_5 175 rfl rfl
theorem lk_1256 : (Cond.code ({ cls := "BellHeirs$Shares", name := "firstBestUse", desc := "(II)I" } : MethodName) prog_9_method_5_code (4 : Nat) (Option.some FieldType.int)) ∈ aw_all := aw_5 176 rfl rfl
theorem lk_1257 : (Cond.methodLink "BellHeirsLaw" (151 : Nat) ({ cls := "BellHeirs", name := "chain", desc := "(IIII)I" } : MethodName)) ∈ aw_all := aw_5 177 rfl rfl
theorem lk_1258 : (Cond.instanceMethod ({ cls := "BellHeirs", name := "chain", desc := "(IIII)I" } : MethodName)) ∈ aw_all := aw_5 178 rfl rfl
theorem lk_1259 : (Cond.selects "BellHeirs" ({ cls := "BellHeirs", name := "chain", desc := "(IIII)I" } : MethodName) ({ cls := "BellHeirs", name := "chain", desc := "(IIII)I" } : MethodName)) ∈ aw_all := aw_5 179 rfl rfl
theorem lk_1260 : (Cond.code ({ cls := "BellHeirs", name := "chain", desc := "(IIII)I" } : MethodName) prog_1_method_35_code (6 : Nat) (Option.some FieldType.int)) ∈ aw_all := aw_5 180 rfl rfl
theorem lk_1261 : (Cond.methodLink "BellHeirs" (347 : Nat) ({ cls := "BellHeirs", name := "setSales", desc := "(I)V" } : MethodName)) ∈ aw_all := aw_5 181 rfl rfl
theorem lk_1263 : (Cond.instanceMethod ({ cls := "BellHeirs", name := "setSales", desc := "(I)V" } : MethodName)) ∈ aw_all := aw_5 183 rfl rfl
theorem lk_1264 : (Cond.code ({ cls := "BellHeirs", name := "setSales", desc := "(I)V" } : MethodName) prog_1_method_48_code (5 : Nat) (Option.none : Option Jvm.ClassFile.FieldType)) ∈ aw_all := aw_5 184 rfl rfl
theorem lk_1265 : (Cond.methodLink "BellHeirs" (350 : Nat) ({ cls := "BellHeirs$Plans", name := "findChain", desc := "(III)I" } : MethodName)) ∈ aw_all := aw_5 185 rfl rfl
theorem lk_1266 : (Cond.instanceMethod ({ cls := "BellHeirs$Plans", name := "findChain", desc := "(III)I" } : MethodName)) ∈ aw_all := aw_5 186 rfl rfl
theorem lk_1267 : (Cond.selects "BellHeirs$Plans" ({ cls := "BellHeirs$Plans", name := "findChain", desc := "(III)I" } : MethodName) ({ cls := "BellHeirs$Plans", name := "findChain", desc := "(III)I" } : MethodName)) ∈ aw_all := aw_5 187 rfl rfl
theorem lk_1268 : (Cond.code ({ cls := "BellHeirs$Plans", name := "findChain", desc := "(III)I" } : MethodName) prog_6_method_8_code (7 : Nat) (Option.some FieldType.int)) ∈ aw_all := aw_5 188 rfl rfl
theorem lk_1269 : (Cond.constant "BellHeirs$Plans" (114 : Nat) (1000000 : Int32)) ∈ aw_all := aw_5 189 rfl rfl
theorem lk_1270 : (Cond.methodLink "BellHeirs$Plans" (115 : Nat) ({ cls := "BellHeirs$Plans", name := "toGoBy", desc := "(II)I" } : MethodName)) ∈ aw_all := aw_5 190 rfl rfl
theorem lk_1272 : (Cond.instanceMethod ({ cls := "BellHeirs$Plans", name := "toGoBy", desc := "(II)I" } : MethodName)) ∈ aw_all := aw_5 192 rfl rfl
theorem lk_1273 : (Cond.code ({ cls := "BellHeirs$Plans", name := "toGoBy", desc := "(II)I" } : MethodName) prog_6_method_9_code (4 : Nat) (Option.some FieldType.int)) ∈ aw_all := aw_5 193 rfl rfl
theorem lk_1274 : (Cond.methodLink "BellHeirs$Plans" (118 : Nat) ({ cls := "java/lang/Math", name := "min", desc := "(II)I" } : MethodName)) ∈ aw_all := aw_5 194 rfl rfl
theorem lk_1275 : (Cond.methodLink "BellHeirs$Plans" (121 : Nat) ({ cls := "BellHeirs$Plans", name := "firstBestBuyer", desc := "(II)I" } : MethodName)) ∈ aw_all := aw_5 195 rfl rfl
theorem lk_1277 : (Cond.instanceMethod ({ cls := "BellHeirs$Plans", name := "firstBestBuyer", desc := "(II)I" } : MethodName)) ∈ aw_all := aw_5 197 rfl rfl
theorem lk_1278 : (Cond.code ({ cls := "BellHeirs$Plans", name := "firstBestBuyer", desc := "(II)I" } : MethodName) prog_6_method_10_code (4 : Nat) (Option.some FieldType.int)) ∈ aw_all := aw_5 198 rfl rfl
theorem lk_1279 : (Cond.methodLink "BellHeirsLaw" (155 : Nat) ({ cls := "BellHeirs", name := "likely", desc := "(II)J" } : MethodName)) ∈ aw_all := aw_5 199 rfl rfl
theorem lk_1280 : (Cond.instanceMethod ({ cls := "BellHeirs", name := "likely", desc := "(II)J" } : MethodName)) ∈ aw_all := aw_5 200 rfl rfl
theorem lk_1281 : (Cond.selects "BellHeirs" ({ cls := "BellHeirs", name := "likely", desc := "(II)J" } : MethodName) ({ cls := "BellHeirs", name := "likely", desc := "(II)J" } : MethodName)) ∈ aw_all := aw_5 201 rfl rfl
theorem lk_1282 : (Cond.code ({ cls := "BellHeirs", name := "likely", desc := "(II)J" } : MethodName) prog_1_method_36_code (3 : Nat) (Option.some FieldType.long)) ∈ aw_all := aw_5 202 rfl rfl
theorem lk_1283 : (Cond.constantLong "BellHeirs" (359 : Nat) (-1 : Int64)) ∈ aw_all := aw_5 203 rfl rfl
theorem lk_1284 : (Cond.methodLink "BellHeirs" (361 : Nat) ({ cls := "BellHeirs$Shares", name := "chance", desc := "(III)J" } : MethodName)) ∈ aw_all := aw_5 204 rfl rfl
theorem lk_1285 : (Cond.instanceMethod ({ cls := "BellHeirs$Shares", name := "chance", desc := "(III)J" } : MethodName)) ∈ aw_all := aw_5 205 rfl rfl
theorem lk_1286 : (Cond.selects "BellHeirs$Shares" ({ cls := "BellHeirs$Shares", name := "chance", desc := "(III)J" } : MethodName) ({ cls := "BellHeirs$Shares", name := "chance", desc := "(III)J" } : MethodName)) ∈ aw_all := aw_5 206 rfl rfl
theorem lk_1287 : (Cond.code ({ cls := "BellHeirs$Shares", name := "chance", desc := "(III)J" } : MethodName) prog_9_method_8_code (6 : Nat) (Option.some FieldType.long)) ∈ aw_all := aw_5 207 rfl rfl
theorem lk_1288 : (Cond.constantLong "BellHeirs$Shares" (72 : Nat) (1000000000000 : Int64)) ∈ aw_all := aw_5 208 rfl rfl
theorem lk_1289 : (Cond.constantLong "BellHeirs$Shares" (74 : Nat) (10 : Int64)) ∈ aw_all := aw_5 209 rfl rfl
theorem lk_1290 : (Cond.methodLink "BellHeirsLaw" (160 : Nat) ({ cls := "BellHeirs", name := "generations", desc := "(II)I" } : MethodName)) ∈ aw_all := aw_5 210 rfl rfl
theorem lk_1291 : (Cond.instanceMethod ({ cls := "BellHeirs", name := "generations", desc := "(II)I" } : MethodName)) ∈ aw_all := aw_5 211 rfl rfl
theorem lk_1292 : (Cond.selects "BellHeirs" ({ cls := "BellHeirs", name := "generations", desc := "(II)I" } : MethodName) ({ cls := "BellHeirs", name := "generations", desc := "(II)I" } : MethodName)) ∈ aw_all := aw_5 212 rfl rfl
theorem lk_1293 : (Cond.code ({ cls := "BellHeirs", name := "generations", desc := "(II)I" } : MethodName) prog_1_method_37_code (4 : Nat) (Option.some FieldType.int)) ∈ aw_all := aw_5 213 rfl rfl
theorem lk_1294 : (Cond.constant "BellHeirs" (365 : Nat) (1000000 : Int32)) ∈ aw_all := aw_5 214 rfl rfl
theorem lk_1295 : (Cond.methodLink "BellHeirs" (366 : Nat) ({ cls := "BellHeirs$Deeds", name := "live", desc := "(LBellHeirs$Suburb;II)I" } : MethodName)) ∈ aw_all := aw_5 215 rfl rfl
theorem lk_1296 : (Cond.instanceMethod ({ cls := "BellHeirs$Deeds", name := "live", desc := "(LBellHeirs$Suburb;II)I" } : MethodName)) ∈ aw_all := aw_5 216 rfl rfl
theorem lk_1297 : (Cond.selects "BellHeirs$Deeds" ({ cls := "BellHeirs$Deeds", name := "live", desc := "(LBellHeirs$Suburb;II)I" } : MethodName) ({ cls := "BellHeirs$Deeds", name := "live", desc := "(LBellHeirs$Suburb;II)I" } : MethodName)) ∈ aw_all := aw_5 217 rfl rfl
theorem lk_1298 : (Cond.code ({ cls := "BellHeirs$Deeds", name := "live", desc := "(LBellHeirs$Suburb;II)I" } : MethodName) prog_3_method_11_code (9 : Nat) (Option.some FieldType.int)) ∈ aw_all := aw_5 218 rfl rfl
theorem lk_1299 : (Cond.methodLink "BellHeirs$Deeds" (179 : Nat) ({ cls := "BellHeirs$Deeds", name := "draw", desc := "(I)I" } : MethodName)) ∈ aw_all := aw_5 219 rfl rfl
theorem lk_1301 : (Cond.instanceMethod ({ cls := "BellHeirs$Deeds", name := "draw", desc := "(I)I" } : MethodName)) ∈ aw_all := aw_5 221 rfl rfl
theorem lk_1302 : (Cond.code ({ cls := "BellHeirs$Deeds", name := "draw", desc := "(I)I" } : MethodName) prog_3_method_12_code (2 : Nat) (Option.some FieldType.int)) ∈ aw_all := aw_5 222 rfl rfl
theorem lk_1303 : (Cond.constantLong "BellHeirs$Deeds" (182 : Nat) (1103 : Int64)) ∈ aw_all := aw_5 223 rfl rfl
theorem lk_1304 : (Cond.constantLong "BellHeirs$Deeds" (184 : Nat) (12345 : Int64)) ∈ aw_all := aw_5 224 rfl rfl
theorem lk_1305 : (Cond.constantLong "BellHeirs$Deeds" (186 : Nat) (1000003 : Int64)) ∈ aw_all := aw_5 225 rfl rfl
theorem lk_1306 : (Cond.methodLink "BellHeirs" (369 : Nat) ({ cls := "java/lang/System", name := "arraycopy", desc := "(Ljava/lang/Object;ILjava/lang/Object;II)V" } : MethodName)) ∈ aw_all := aw_5 226 rfl rfl
theorem lk_1307 : (Cond.methodLink "BellHeirsLaw" (164 : Nat) ({ cls := "BellHeirs", name := "drawn", desc := "(II)I" } : MethodName)) ∈ aw_all := aw_5 227 rfl rfl
theorem lk_1308 : (Cond.instanceMethod ({ cls := "BellHeirs", name := "drawn", desc := "(II)I" } : MethodName)) ∈ aw_all := aw_5 228 rfl rfl
theorem lk_1309 : (Cond.selects "BellHeirs" ({ cls := "BellHeirs", name := "drawn", desc := "(II)I" } : MethodName) ({ cls := "BellHeirs", name := "drawn", desc := "(II)I" } : MethodName)) ∈ aw_all := aw_5 229 rfl rfl
theorem lk_1310 : (Cond.code ({ cls := "BellHeirs", name := "drawn", desc := "(II)I" } : MethodName) prog_1_method_38_code (3 : Nat) (Option.some FieldType.int)) ∈ aw_all := aw_5 230 rfl rfl
theorem lk_1311 : (Cond.methodLink "BellHeirsLaw" (168 : Nat) ({ cls := "BellHeirs", name := "image", desc := "(I)I" } : MethodName)) ∈ aw_all := aw_5 231 rfl rfl
theorem lk_1312 : (Cond.instanceMethod ({ cls := "BellHeirs", name := "image", desc := "(I)I" } : MethodName)) ∈ aw_all := aw_5 232 rfl rfl
theorem lk_1313 : (Cond.selects "BellHeirs" ({ cls := "BellHeirs", name := "image", desc := "(I)I" } : MethodName) ({ cls := "BellHeirs", name := "image", desc := "(I)I" } : MethodName)) ∈ aw_all := aw_5 233 rfl rfl
theorem lk_1314 : (Cond.code ({ cls := "BellHeirs", name := "image", desc := "(I)I" } : MethodName) prog_1_method_39_code (2 : Nat) (Option.some FieldType.int)) ∈ aw_all := aw_5 234 rfl rfl
theorem lk_1315 : (Cond.methodLink "BellHeirsLaw" (172 : Nat) ({ cls := "BellHeirs", name := "back", desc := "(I)I" } : MethodName)) ∈ aw_all := aw_5 235 rfl rfl
theorem lk_1316 : (Cond.instanceMethod ({ cls := "BellHeirs", name := "back", desc := "(I)I" } : MethodName)) ∈ aw_all := aw_5 236 rfl rfl
theorem lk_1317 : (Cond.selects "BellHeirs" ({ cls := "BellHeirs", name := "back", desc := "(I)I" } : MethodName) ({ cls := "BellHeirs", name := "back", desc := "(I)I" } : MethodName)) ∈ aw_all := aw_5 237 rfl rfl
theorem lk_1318 : (Cond.code ({ cls := "BellHeirs", name := "back", desc := "(I)I" } : MethodName) prog_1_method_40_code (3 : Nat) (Option.some FieldType.int)) ∈ aw_all := aw_5 238 rfl rfl
theorem lk_1319 : (Cond.methodLink "BellHeirsLaw" (176 : Nat) ({ cls := "BellHeirs", name := "count", desc := "(I)I" } : MethodName)) ∈ aw_all := aw_5 239 rfl rfl
theorem lk_1320 : (Cond.instanceMethod ({ cls := "BellHeirs", name := "count", desc := "(I)I" } : MethodName)) ∈ aw_all := aw_6 0 rfl rfl
theorem lk_1321 : (Cond.selects "BellHeirs" ({ cls := "BellHeirs", name := "count", desc := "(I)I" } : MethodName) ({ cls := "BellHeirs", name := "count", desc := "(I)I" } : MethodName)) ∈ aw_all := aw_6 1 rfl rfl
theorem lk_1322 : (Cond.code ({ cls := "BellHeirs", name := "count", desc := "(I)I" } : MethodName) prog_1_method_41_code (2 : Nat) (Option.some FieldType.int)) ∈ aw_all := aw_6 2 rfl rfl
theorem lk_1323 : (Cond.methodLink "BellHeirs" (375 : Nat) ({ cls := "BellHeirs$Suburb", name := "livingPeople", desc := "()I" } : MethodName)) ∈ aw_all := aw_6 3 rfl rfl
theorem lk_1324 : (Cond.methodLink "BellHeirsLaw" (180 : Nat) ({ cls := "BellHeirs", name := "status", desc := "()I" } : MethodName)) ∈ aw_all := aw_6 4 rfl rfl
theorem lk_1325 : (Cond.instanceMethod ({ cls := "BellHeirs", name := "status", desc := "()I" } : MethodName)) ∈ aw_all := aw_6 5 rfl rfl
theorem lk_1326 : (Cond.selects "BellHeirs" ({ cls := "BellHeirs", name := "status", desc := "()I" } : MethodName) ({ cls := "BellHeirs", name := "status", desc := "()I" } : MethodName)) ∈ aw_all := aw_6 6 rfl rfl
theorem lk_1327 : (Cond.code ({ cls := "BellHeirs", name := "status", desc := "()I" } : MethodName) prog_1_method_42_code (1 : Nat) (Option.some FieldType.int)) ∈ aw_all := aw_6 7 rfl rfl
theorem lk_1328 : (Cond.classLink "BellHeirsLaw" (10 : Nat) "BellHeirsModel") ∈ aw_all := aw_6 8 rfl rfl
theorem lk_1329 : (Cond.instantiable "BellHeirsModel" (61 : Nat)) ∈ aw_all := aw_6 9 rfl rfl
theorem lk_1330 : (Cond.methodLink "BellHeirsLaw" (12 : Nat) ({ cls := "BellHeirsModel", name := "<init>", desc := "()V" } : MethodName)) ∈ aw_all := aw_6 10 rfl rfl
theorem lk_1331 : (Cond.instanceMethod ({ cls := "BellHeirsModel", name := "<init>", desc := "()V" } : MethodName)) ∈ aw_all := aw_6 11 rfl rfl
theorem lk_1332 : (Cond.code ({ cls := "BellHeirsModel", name := "<init>", desc := "()V" } : MethodName) prog_14_method_1_code (1 : Nat) (Option.none : Option Jvm.ClassFile.FieldType)) ∈ aw_all := aw_6 12 rfl rfl
theorem lk_1333 : (Cond.methodLink "BellHeirsModel" (1 : Nat) ({ cls := "java/lang/Object", name := "<init>", desc := "()V" } : MethodName)) ∈ aw_all := aw_6 13 rfl rfl
theorem lk_1334 : (Cond.constantLong "BellHeirsModel" (57 : Nat) (542723566 : Int64)) ∈ aw_all := aw_6 14 rfl rfl
theorem lk_1335 : (Cond.constantLong "BellHeirsModel" (59 : Nat) (1253 : Int64)) ∈ aw_all := aw_6 15 rfl rfl
theorem lk_1336 : (Cond.constantLong "BellHeirsModel" (61 : Nat) (17484389 : Int64)) ∈ aw_all := aw_6 16 rfl rfl
theorem lk_1337 : (Cond.constantLong "BellHeirsModel" (63 : Nat) (8902245 : Int64)) ∈ aw_all := aw_6 17 rfl rfl
theorem lk_1338 : (Cond.constantLong "BellHeirsModel" (65 : Nat) (24282713 : Int64)) ∈ aw_all := aw_6 18 rfl rfl
theorem lk_1339 : (Cond.constantLong "BellHeirsModel" (67 : Nat) (398548 : Int64)) ∈ aw_all := aw_6 19 rfl rfl
theorem lk_1340 : (Cond.constantLong "BellHeirsModel" (69 : Nat) (824370 : Int64)) ∈ aw_all := aw_6 20 rfl rfl
theorem lk_1341 : (Cond.constantLong "BellHeirsModel" (71 : Nat) (655 : Int64)) ∈ aw_all := aw_6 21 rfl rfl
theorem lk_1342 : (Cond.constantLong "BellHeirsModel" (73 : Nat) (441828 : Int64)) ∈ aw_all := aw_6 22 rfl rfl
theorem lk_1343 : (Cond.constantLong "BellHeirsModel" (79 : Nat) (146885 : Int64)) ∈ aw_all := aw_6 23 rfl rfl
theorem lk_1344 : (Cond.constantLong "BellHeirsModel" (81 : Nat) (404362868 : Int64)) ∈ aw_all := aw_6 24 rfl rfl
theorem lk_1345 : (Cond.constantLong "BellHeirsModel" (83 : Nat) (412820935 : Int64)) ∈ aw_all := aw_6 25 rfl rfl
theorem lk_1346 : (Cond.constantLong "BellHeirsModel" (88 : Nat) (21285043 : Int64)) ∈ aw_all := aw_6 26 rfl rfl
theorem lk_1347 : (Cond.constantLong "BellHeirsModel" (90 : Nat) (3657363 : Int64)) ∈ aw_all := aw_6 27 rfl rfl
theorem lk_1348 : (Cond.constantLong "BellHeirsModel" (92 : Nat) (24627848 : Int64)) ∈ aw_all := aw_6 28 rfl rfl
theorem lk_1349 : (Cond.constantLong "BellHeirsModel" (94 : Nat) (16258515 : Int64)) ∈ aw_all := aw_6 29 rfl rfl
theorem lk_1350 : (Cond.constantLong "BellHeirsModel" (96 : Nat) (67155 : Int64)) ∈ aw_all := aw_6 30 rfl rfl
theorem lk_1351 : (Cond.constantLong "BellHeirsModel" (137 : Nat) (599495 : Int64)) ∈ aw_all := aw_6 31 rfl rfl
theorem lk_1352 : (Cond.constantLong "BellHeirsModel" (139 : Nat) (628108 : Int64)) ∈ aw_all := aw_6 32 rfl rfl
theorem lk_1353 : (Cond.constantLong "BellHeirsModel" (141 : Nat) (4389 : Int64)) ∈ aw_all := aw_6 33 rfl rfl
theorem lk_1354 : (Cond.constantLong "BellHeirsModel" (143 : Nat) (525939 : Int64)) ∈ aw_all := aw_6 34 rfl rfl
theorem lk_1355 : (Cond.fieldLink "BellHeirsModel" (163 : Nat) "BellHeirsModel" "thrown" "I") ∈ aw_all := aw_6 35 rfl rfl
theorem lk_1356 : (Cond.fieldLink "BellHeirsModel" (166 : Nat) "BellHeirsModel" "status" "I") ∈ aw_all := aw_6 36 rfl rfl
theorem lk_1357 : (Cond.fieldLink "BellHeirsModel" (7 : Nat) "BellHeirsModel" "refusals" "[I") ∈ aw_all := aw_6 37 rfl rfl
theorem lk_1358 : (Cond.fieldLink "BellHeirsModel" (13 : Nat) "BellHeirsModel" "row" "[I") ∈ aw_all := aw_6 38 rfl rfl
theorem lk_1359 : (Cond.fieldLink "BellHeirsModel" (16 : Nat) "BellHeirsModel" "images" "[I") ∈ aw_all := aw_6 39 rfl rfl
theorem lk_1360 : (Cond.fieldLink "BellHeirsModel" (19 : Nat) "BellHeirsModel" "isKept" "[Z") ∈ aw_all := aw_6 40 rfl rfl
theorem lk_1361 : (Cond.fieldLink "BellHeirsModel" (23 : Nat) "BellHeirsModel" "undos" "[I") ∈ aw_all := aw_6 41 rfl rfl
theorem lk_1362 : (Cond.fieldLink "BellHeirsModel" (26 : Nat) "BellHeirsModel" "sorts" "[I") ∈ aw_all := aw_6 42 rfl rfl
theorem lk_1363 : (Cond.fieldLink "BellHeirsModel" (169 : Nat) "BellHeirsModel" "nUndo" "I") ∈ aw_all := aw_6 43 rfl rfl
theorem lk_1364 : (Cond.fieldLink "BellHeirsModel" (29 : Nat) "BellHeirsModel" "undosBefore" "[I") ∈ aw_all := aw_6 44 rfl rfl
theorem lk_1365 : (Cond.fieldLink "BellHeirsModel" (32 : Nat) "BellHeirsModel" "sortsBefore" "[I") ∈ aw_all := aw_6 45 rfl rfl
theorem lk_1366 : (Cond.fieldLink "BellHeirsModel" (248 : Nat) "BellHeirsModel" "rust" "I") ∈ aw_all := aw_6 46 rfl rfl
theorem lk_1367 : (Cond.fieldLink "BellHeirsModel" (35 : Nat) "BellHeirsModel" "tape" "[I") ∈ aw_all := aw_6 47 rfl rfl
theorem lk_1368 : (Cond.fieldLink "BellHeirsModel" (245 : Nat) "BellHeirsModel" "taped" "I") ∈ aw_all := aw_6 48 rfl rfl
theorem lk_1369 : (Cond.fieldLink "BellHeirsModel" (264 : Nat) "BellHeirsModel" "from" "I") ∈ aw_all := aw_6 49 rfl rfl
theorem lk_1370 : (Cond.fieldLink "BellHeirsModel" (254 : Nat) "BellHeirsModel" "to" "I") ∈ aw_all := aw_6 50 rfl rfl
theorem lk_1371 : (Cond.fieldLink "BellHeirsModel" (277 : Nat) "BellHeirsModel" "sort" "I") ∈ aw_all := aw_6 51 rfl rfl
theorem lk_1372 : (Cond.fieldLink "BellHeirsModel" (267 : Nat) "BellHeirsModel" "worth" "J") ∈ aw_all := aw_6 52 rfl rfl
theorem lk_1373 : (Cond.fieldLink "BellHeirsModel" (38 : Nat) "BellHeirsModel" "fault" "I") ∈ aw_all := aw_6 53 rfl rfl
theorem lk_1374 : (Cond.fieldLink "BellHeirsModel" (257 : Nat) "BellHeirsModel" "bad" "Z") ∈ aw_all := aw_6 54 rfl rfl
theorem lk_1375 : (Cond.fieldLink "BellHeirsModel" (332 : Nat) "BellHeirsModel" "ordered" "Z") ∈ aw_all := aw_6 55 rfl rfl
theorem lk_1376 : (Cond.fieldLink "BellHeirsModel" (386 : Nat) "BellHeirsModel" "nClauses" "I") ∈ aw_all := aw_6 56 rfl rfl
theorem lk_1377 : (Cond.fieldLink "BellHeirsModel" (42 : Nat) "BellHeirsModel" "nClause" "[I") ∈ aw_all := aw_6 57 rfl rfl
theorem lk_1378 : (Cond.fieldLink "BellHeirsModel" (294 : Nat) "BellHeirsModel" "nCode" "I") ∈ aw_all := aw_6 58 rfl rfl
theorem lk_1379 : (Cond.fieldLink "BellHeirsModel" (45 : Nat) "BellHeirsModel" "nOp" "[I") ∈ aw_all := aw_6 59 rfl rfl
theorem lk_1380 : (Cond.fieldLink "BellHeirsModel" (48 : Nat) "BellHeirsModel" "nArg" "[I") ∈ aw_all := aw_6 60 rfl rfl
theorem lk_1381 : (Cond.fieldLink "BellHeirsModel" (323 : Nat) "BellHeirsModel" "nLeaves" "I") ∈ aw_all := aw_6 61 rfl rfl
theorem lk_1382 : (Cond.fieldLink "BellHeirsModel" (51 : Nat) "BellHeirsModel" "pile" "[I") ∈ aw_all := aw_6 62 rfl rfl
theorem lk_1383 : (Cond.fieldLink "BellHeirsModel" (54 : Nat) "BellHeirsModel" "pileAt" "[I") ∈ aw_all := aw_6 63 rfl rfl
theorem lk_1384 : (Cond.fieldLink "BellHeirsModel" (297 : Nat) "BellHeirsModel" "piled" "I") ∈ aw_all := aw_6 64 rfl rfl
theorem lk_1385 : (Cond.fieldLink "BellHeirsModel" (317 : Nat) "BellHeirsModel" "opened" "I") ∈ aw_all := aw_6 65 rfl rfl
theorem lk_1386 : (Cond.fieldLink "BellHeirsModel" (75 : Nat) "BellHeirsModel" "words" "[J") ∈ aw_all := aw_6 66 rfl rfl
theorem lk_1387 : (Cond.fieldLink "BellHeirsModel" (85 : Nat) "BellHeirsModel" "orderWords" "[J") ∈ aw_all := aw_6 67 rfl rfl
theorem lk_1388 : (Cond.fieldLink "BellHeirsModel" (98 : Nat) "BellHeirsModel" "heads" "[J") ∈ aw_all := aw_6 68 rfl rfl
theorem lk_1389 : (Cond.fieldLink "BellHeirsModel" (406 : Nat) "BellHeirsModel" "law" "I") ∈ aw_all := aw_6 69 rfl rfl
theorem lk_1390 : (Cond.fieldLink "BellHeirsModel" (101 : Nat) "BellHeirsModel" "set" "[J") ∈ aw_all := aw_6 70 rfl rfl
theorem lk_1391 : (Cond.fieldLink "BellHeirsModel" (104 : Nat) "BellHeirsModel" "now" "[J") ∈ aw_all := aw_6 71 rfl rfl
theorem lk_1392 : (Cond.fieldLink "BellHeirsModel" (107 : Nat) "BellHeirsModel" "rest" "[J") ∈ aw_all := aw_6 72 rfl rfl
theorem lk_1393 : (Cond.fieldLink "BellHeirsModel" (403 : Nat) "BellHeirsModel" "broken" "Z") ∈ aw_all := aw_6 73 rfl rfl
theorem lk_1394 : (Cond.fieldLink "BellHeirsModel" (420 : Nat) "BellHeirsModel" "value" "J") ∈ aw_all := aw_6 74 rfl rfl
theorem lk_1395 : (Cond.fieldLink "BellHeirsModel" (426 : Nat) "BellHeirsModel" "sum" "J") ∈ aw_all := aw_6 75 rfl rfl
theorem lk_1396 : (Cond.fieldLink "BellHeirsModel" (110 : Nat) "BellHeirsModel" "tried" "[I") ∈ aw_all := aw_6 76 rfl rfl
theorem lk_1397 : (Cond.fieldLink "BellHeirsModel" (113 : Nat) "BellHeirsModel" "gone" "[I") ∈ aw_all := aw_6 77 rfl rfl
theorem lk_1398 : (Cond.fieldLink "BellHeirsModel" (116 : Nat) "BellHeirsModel" "bestRow" "[I") ∈ aw_all := aw_6 78 rfl rfl
theorem lk_1399 : (Cond.fieldLink "BellHeirsModel" (494 : Nat) "BellHeirsModel" "bestLong" "I") ∈ aw_all := aw_6 79 rfl rfl
theorem lk_1400 : (Cond.fieldLink "BellHeirsModel" (119 : Nat) "BellHeirsModel" "giver" "[I") ∈ aw_all := aw_6 80 rfl rfl
theorem lk_1401 : (Cond.fieldLink "BellHeirsModel" (122 : Nat) "BellHeirsModel" "bestGiver" "[I") ∈ aw_all := aw_6 81 rfl rfl
theorem lk_1402 : (Cond.fieldLink "BellHeirsModel" (125 : Nat) "BellHeirsModel" "got" "[I") ∈ aw_all := aw_6 82 rfl rfl
theorem lk_1403 : (Cond.fieldLink "BellHeirsModel" (128 : Nat) "BellHeirsModel" "mostKept" "[I") ∈ aw_all := aw_6 83 rfl rfl
theorem lk_1404 : (Cond.fieldLink "BellHeirsModel" (131 : Nat) "BellHeirsModel" "chainFrom" "[I") ∈ aw_all := aw_6 84 rfl rfl
theorem lk_1405 : (Cond.fieldLink "BellHeirsModel" (134 : Nat) "BellHeirsModel" "parts" "[J") ∈ aw_all := aw_6 85 rfl rfl
theorem lk_1406 : (Cond.fieldLink "BellHeirsModel" (145 : Nat) "BellHeirsModel" "acts" "[J") ∈ aw_all := aw_6 86 rfl rfl
theorem lk_1407 : (Cond.fieldLink "BellHeirsModel" (148 : Nat) "BellHeirsModel" "nOrder" "[I") ∈ aw_all := aw_6 87 rfl rfl
theorem lk_1408 : (Cond.fieldLink "BellHeirsModel" (557 : Nat) "BellHeirsModel" "done" "I") ∈ aw_all := aw_6 88 rfl rfl
theorem lk_1409 : (Cond.fieldLink "BellHeirsModel" (560 : Nat) "BellHeirsModel" "latest" "I") ∈ aw_all := aw_6 89 rfl rfl
theorem lk_1410 : (Cond.fieldLink "BellHeirsModel" (151 : Nat) "BellHeirsModel" "stopped" "I") ∈ aw_all := aw_6 90 rfl rfl
theorem lk_1411 : (Cond.fieldLink "BellHeirsModel" (554 : Nat) "BellHeirsModel" "off" "Z") ∈ aw_all := aw_6 91 rfl rfl
theorem lk_1412 : (Cond.fieldLink "BellHeirsModel" (578 : Nat) "BellHeirsModel" "state" "J") ∈ aw_all := aw_6 92 rfl rfl
theorem lk_1413 : (Cond.fieldLink "BellHeirsModel" (154 : Nat) "BellHeirsModel" "drawn" "[I") ∈ aw_all := aw_6 93 rfl rfl
theorem lk_1414 : (Cond.fieldLink "BellHeirsModel" (157 : Nat) "BellHeirsModel" "drawnPeople" "I") ∈ aw_all := aw_6 94 rfl rfl
theorem lk_1415 : (Cond.fieldLink "BellHeirsModel" (160 : Nat) "BellHeirsModel" "drawnHouses" "I") ∈ aw_all := aw_6 95 rfl rfl
theorem lk_1539 : (Cond.arrayClass FieldType.boolean) ∈ aw_all := aw_6 219 rfl rfl
theorem lk_1540 : (Cond.methodLink "BellHeirsLaw" (114 : Nat) ({ cls := "BellHeirsModel", name := "undo", desc := "()I" } : MethodName)) ∈ aw_all := aw_6 220 rfl rfl
theorem lk_1541 : (Cond.instanceMethod ({ cls := "BellHeirsModel", name := "undo", desc := "()I" } : MethodName)) ∈ aw_all := aw_6 221 rfl rfl
theorem lk_1542 : (Cond.selects "BellHeirsModel" ({ cls := "BellHeirsModel", name := "undo", desc := "()I" } : MethodName) ({ cls := "BellHeirsModel", name := "undo", desc := "()I" } : MethodName)) ∈ aw_all := aw_6 222 rfl rfl
theorem lk_1543 : (Cond.code ({ cls := "BellHeirsModel", name := "undo", desc := "()I" } : MethodName) prog_14_method_13_code (1 : Nat) (Option.some FieldType.int)) ∈ aw_all := aw_6 223 rfl rfl
theorem lk_1544 : (Cond.methodLink "BellHeirsModel" (172 : Nat) ({ cls := "BellHeirsModel", name := "tell", desc := "(I)I" } : MethodName)) ∈ aw_all := aw_6 224 rfl rfl
theorem lk_1546 : (Cond.instanceMethod ({ cls := "BellHeirsModel", name := "tell", desc := "(I)I" } : MethodName)) ∈ aw_all := aw_6 226 rfl rfl
theorem lk_1547 : (Cond.code ({ cls := "BellHeirsModel", name := "tell", desc := "(I)I" } : MethodName) prog_14_method_7_code (2 : Nat) (Option.some FieldType.int)) ∈ aw_all := aw_6 227 rfl rfl
theorem lk_1548 : (Cond.methodLink "BellHeirsModel" (180 : Nat) ({ cls := "BellHeirsModel", name := "putBack", desc := "(I)V" } : MethodName)) ∈ aw_all := aw_6 228 rfl rfl
theorem lk_1550 : (Cond.instanceMethod ({ cls := "BellHeirsModel", name := "putBack", desc := "(I)V" } : MethodName)) ∈ aw_all := aw_6 230 rfl rfl
theorem lk_1551 : (Cond.code ({ cls := "BellHeirsModel", name := "putBack", desc := "(I)V" } : MethodName) prog_14_method_11_code (3 : Nat) (Option.none : Option Jvm.ClassFile.FieldType)) ∈ aw_all := aw_6 231 rfl rfl
theorem lk_1552 : (Cond.methodLink "BellHeirsLaw" (171 : Nat) ({ cls := "BellHeirsModel", name := "image", desc := "(I)I" } : MethodName)) ∈ aw_all := aw_6 232 rfl rfl
theorem lk_1553 : (Cond.instanceMethod ({ cls := "BellHeirsModel", name := "image", desc := "(I)I" } : MethodName)) ∈ aw_all := aw_6 233 rfl rfl
theorem lk_1554 : (Cond.selects "BellHeirsModel" ({ cls := "BellHeirsModel", name := "image", desc := "(I)I" } : MethodName) ({ cls := "BellHeirsModel", name := "image", desc := "(I)I" } : MethodName)) ∈ aw_all := aw_6 234 rfl rfl
theorem lk_1555 : (Cond.code ({ cls := "BellHeirsModel", name := "image", desc := "(I)I" } : MethodName) prog_14_method_14_code (3 : Nat) (Option.some FieldType.int)) ∈ aw_all := aw_6 235 rfl rfl
theorem lk_1556 : (Cond.methodLink "BellHeirsModel" (183 : Nat) ({ cls := "BellHeirsModel", name := "in", desc := "(JJJ)Z" } : MethodName)) ∈ aw_all := aw_6 236 rfl rfl
theorem lk_1557 : (Cond.static ({ cls := "BellHeirsModel", name := "in", desc := "(JJJ)Z" } : MethodName)) ∈ aw_all := aw_6 237 rfl rfl
theorem lk_1558 : (Cond.code ({ cls := "BellHeirsModel", name := "in", desc := "(JJJ)Z" } : MethodName) prog_14_method_3_code (6 : Nat) (Option.some FieldType.boolean)) ∈ aw_all := aw_6 238 rfl rfl
theorem lk_1559 : (Cond.methodLink "BellHeirsLaw" (175 : Nat) ({ cls := "BellHeirsModel", name := "back", desc := "(I)I" } : MethodName)) ∈ aw_all := aw_6 239 rfl rfl
theorem lk_1560 : (Cond.instanceMethod ({ cls := "BellHeirsModel", name := "back", desc := "(I)I" } : MethodName)) ∈ aw_all := aw_7 0 rfl rfl
theorem lk_1561 : (Cond.selects "BellHeirsModel" ({ cls := "BellHeirsModel", name := "back", desc := "(I)I" } : MethodName) ({ cls := "BellHeirsModel", name := "back", desc := "(I)I" } : MethodName)) ∈ aw_all := aw_7 1 rfl rfl
theorem lk_1562 : (Cond.code ({ cls := "BellHeirsModel", name := "back", desc := "(I)I" } : MethodName) prog_14_method_15_code (3 : Nat) (Option.some FieldType.int)) ∈ aw_all := aw_7 2 rfl rfl
theorem lk_1563 : (Cond.methodLink "BellHeirsModel" (187 : Nat) ({ cls := "BellHeirsModel", name := "settled", desc := "(I)I" } : MethodName)) ∈ aw_all := aw_7 3 rfl rfl
theorem lk_1565 : (Cond.instanceMethod ({ cls := "BellHeirsModel", name := "settled", desc := "(I)I" } : MethodName)) ∈ aw_all := aw_7 5 rfl rfl
theorem lk_1566 : (Cond.code ({ cls := "BellHeirsModel", name := "settled", desc := "(I)I" } : MethodName) prog_14_method_9_code (2 : Nat) (Option.some FieldType.int)) ∈ aw_all := aw_7 6 rfl rfl
theorem lk_1567 : (Cond.methodLink "BellHeirsLaw" (17 : Nat) ({ cls := "BellHeirsModel", name := "house", desc := "(II)I" } : MethodName)) ∈ aw_all := aw_7 7 rfl rfl
theorem lk_1568 : (Cond.instanceMethod ({ cls := "BellHeirsModel", name := "house", desc := "(II)I" } : MethodName)) ∈ aw_all := aw_7 8 rfl rfl
theorem lk_1569 : (Cond.selects "BellHeirsModel" ({ cls := "BellHeirsModel", name := "house", desc := "(II)I" } : MethodName) ({ cls := "BellHeirsModel", name := "house", desc := "(II)I" } : MethodName)) ∈ aw_all := aw_7 9 rfl rfl
theorem lk_1570 : (Cond.code ({ cls := "BellHeirsModel", name := "house", desc := "(II)I" } : MethodName) prog_14_method_25_code (5 : Nat) (Option.some FieldType.int)) ∈ aw_all := aw_7 10 rfl rfl
theorem lk_1571 : (Cond.methodLink "BellHeirsModel" (203 : Nat) ({ cls := "BellHeirsModel", name := "isPlace", desc := "(I)Z" } : MethodName)) ∈ aw_all := aw_7 11 rfl rfl
theorem lk_1572 : (Cond.static ({ cls := "BellHeirsModel", name := "isPlace", desc := "(I)Z" } : MethodName)) ∈ aw_all := aw_7 12 rfl rfl
theorem lk_1573 : (Cond.code ({ cls := "BellHeirsModel", name := "isPlace", desc := "(I)Z" } : MethodName) prog_14_method_18_code (1 : Nat) (Option.some FieldType.boolean)) ∈ aw_all := aw_7 13 rfl rfl
theorem lk_1574 : (Cond.constantLong "BellHeirsModel" (190 : Nat) (24 : Int64)) ∈ aw_all := aw_7 14 rfl rfl
theorem lk_1575 : (Cond.constantLong "BellHeirsModel" (206 : Nat) (99 : Int64)) ∈ aw_all := aw_7 15 rfl rfl
theorem lk_1576 : (Cond.methodLink "BellHeirsLaw" (21 : Nat) ({ cls := "BellHeirsModel", name := "at", desc := "(II)I" } : MethodName)) ∈ aw_all := aw_7 16 rfl rfl
theorem lk_1577 : (Cond.instanceMethod ({ cls := "BellHeirsModel", name := "at", desc := "(II)I" } : MethodName)) ∈ aw_all := aw_7 17 rfl rfl
theorem lk_1578 : (Cond.selects "BellHeirsModel" ({ cls := "BellHeirsModel", name := "at", desc := "(II)I" } : MethodName) ({ cls := "BellHeirsModel", name := "at", desc := "(II)I" } : MethodName)) ∈ aw_all := aw_7 18 rfl rfl
theorem lk_1579 : (Cond.code ({ cls := "BellHeirsModel", name := "at", desc := "(II)I" } : MethodName) prog_14_method_27_code (3 : Nat) (Option.some FieldType.int)) ∈ aw_all := aw_7 19 rfl rfl
theorem lk_1580 : (Cond.methodLink "BellHeirsModel" (208 : Nat) ({ cls := "BellHeirsModel", name := "isHouse", desc := "(I)Z" } : MethodName)) ∈ aw_all := aw_7 20 rfl rfl
theorem lk_1582 : (Cond.instanceMethod ({ cls := "BellHeirsModel", name := "isHouse", desc := "(I)Z" } : MethodName)) ∈ aw_all := aw_7 22 rfl rfl
theorem lk_1583 : (Cond.code ({ cls := "BellHeirsModel", name := "isHouse", desc := "(I)Z" } : MethodName) prog_14_method_16_code (2 : Nat) (Option.some FieldType.boolean)) ∈ aw_all := aw_7 23 rfl rfl
theorem lk_1584 : (Cond.methodLink "BellHeirsModel" (211 : Nat) ({ cls := "BellHeirsModel", name := "rightsTo", desc := "(I)I" } : MethodName)) ∈ aw_all := aw_7 24 rfl rfl
theorem lk_1586 : (Cond.instanceMethod ({ cls := "BellHeirsModel", name := "rightsTo", desc := "(I)I" } : MethodName)) ∈ aw_all := aw_7 26 rfl rfl
theorem lk_1587 : (Cond.code ({ cls := "BellHeirsModel", name := "rightsTo", desc := "(I)I" } : MethodName) prog_14_method_26_code (4 : Nat) (Option.some FieldType.int)) ∈ aw_all := aw_7 27 rfl rfl
theorem lk_1588 : (Cond.methodLink "BellHeirsModel" (196 : Nat) ({ cls := "BellHeirsModel", name := "rights", desc := "(II)I" } : MethodName)) ∈ aw_all := aw_7 28 rfl rfl
theorem lk_1590 : (Cond.instanceMethod ({ cls := "BellHeirsModel", name := "rights", desc := "(II)I" } : MethodName)) ∈ aw_all := aw_7 30 rfl rfl
theorem lk_1591 : (Cond.code ({ cls := "BellHeirsModel", name := "rights", desc := "(II)I" } : MethodName) prog_14_method_21_code (3 : Nat) (Option.some FieldType.int)) ∈ aw_all := aw_7 31 rfl rfl
theorem lk_1592 : (Cond.methodLink "BellHeirsModel" (214 : Nat) ({ cls := "BellHeirsModel", name := "worthOf", desc := "(II)I" } : MethodName)) ∈ aw_all := aw_7 32 rfl rfl
theorem lk_1594 : (Cond.instanceMethod ({ cls := "BellHeirsModel", name := "worthOf", desc := "(II)I" } : MethodName)) ∈ aw_all := aw_7 34 rfl rfl
theorem lk_1595 : (Cond.code ({ cls := "BellHeirsModel", name := "worthOf", desc := "(II)I" } : MethodName) prog_14_method_78_code (3 : Nat) (Option.some FieldType.int)) ∈ aw_all := aw_7 35 rfl rfl
theorem lk_1596 : (Cond.constantLong "BellHeirsModel" (241 : Nat) (10 : Int64)) ∈ aw_all := aw_7 36 rfl rfl
theorem lk_1597 : (Cond.methodLink "BellHeirsModel" (438 : Nat) ({ cls := "BellHeirsModel", name := "tells", desc := "(IIIIIJ)J" } : MethodName)) ∈ aw_all := aw_7 37 rfl rfl
theorem lk_1599 : (Cond.instanceMethod ({ cls := "BellHeirsModel", name := "tells", desc := "(IIIIIJ)J" } : MethodName)) ∈ aw_all := aw_7 39 rfl rfl
theorem lk_1600 : (Cond.code ({ cls := "BellHeirsModel", name := "tells", desc := "(IIIIIJ)J" } : MethodName) prog_14_method_73_code (12 : Nat) (Option.some FieldType.long)) ∈ aw_all := aw_7 40 rfl rfl
theorem lk_1601 : (Cond.constantLong "BellHeirsModel" (284 : Nat) (-1 : Int64)) ∈ aw_all := aw_7 41 rfl rfl
theorem lk_1602 : (Cond.methodLink "BellHeirsModel" (200 : Nat) ({ cls := "BellHeirsModel", name := "leftOf", desc := "(II)I" } : MethodName)) ∈ aw_all := aw_7 42 rfl rfl
theorem lk_1604 : (Cond.instanceMethod ({ cls := "BellHeirsModel", name := "leftOf", desc := "(II)I" } : MethodName)) ∈ aw_all := aw_7 44 rfl rfl
theorem lk_1605 : (Cond.code ({ cls := "BellHeirsModel", name := "leftOf", desc := "(II)I" } : MethodName) prog_14_method_22_code (3 : Nat) (Option.some FieldType.int)) ∈ aw_all := aw_7 45 rfl rfl
theorem lk_1606 : (Cond.methodLink "BellHeirsModel" (429 : Nat) ({ cls := "BellHeirsModel", name := "isSo", desc := "(I)Z" } : MethodName)) ∈ aw_all := aw_7 46 rfl rfl
theorem lk_1608 : (Cond.instanceMethod ({ cls := "BellHeirsModel", name := "isSo", desc := "(I)Z" } : MethodName)) ∈ aw_all := aw_7 48 rfl rfl
theorem lk_1609 : (Cond.code ({ cls := "BellHeirsModel", name := "isSo", desc := "(I)Z" } : MethodName) prog_14_method_72_code (2 : Nat) (Option.some FieldType.boolean)) ∈ aw_all := aw_7 49 rfl rfl
theorem lk_1610 : (Cond.methodLink "BellHeirsModel" (423 : Nat) ({ cls := "BellHeirsModel", name := "reckonAll", desc := "(II)V" } : MethodName)) ∈ aw_all := aw_7 50 rfl rfl
theorem lk_1612 : (Cond.instanceMethod ({ cls := "BellHeirsModel", name := "reckonAll", desc := "(II)V" } : MethodName)) ∈ aw_all := aw_7 52 rfl rfl
theorem lk_1613 : (Cond.code ({ cls := "BellHeirsModel", name := "reckonAll", desc := "(II)V" } : MethodName) prog_14_method_71_code (7 : Nat) (Option.none : Option Jvm.ClassFile.FieldType)) ∈ aw_all := aw_7 53 rfl rfl
theorem lk_1614 : (Cond.methodLink "BellHeirsModel" (223 : Nat) ({ cls := "BellHeirsModel", name := "isPerson", desc := "(I)Z" } : MethodName)) ∈ aw_all := aw_7 54 rfl rfl
theorem lk_1616 : (Cond.instanceMethod ({ cls := "BellHeirsModel", name := "isPerson", desc := "(I)Z" } : MethodName)) ∈ aw_all := aw_7 56 rfl rfl
theorem lk_1617 : (Cond.code ({ cls := "BellHeirsModel", name := "isPerson", desc := "(I)Z" } : MethodName) prog_14_method_17_code (2 : Nat) (Option.some FieldType.boolean)) ∈ aw_all := aw_7 57 rfl rfl
theorem lk_1618 : (Cond.methodLink "BellHeirsModel" (409 : Nat) ({ cls := "BellHeirsModel", name := "leftOfAll", desc := "(I)I" } : MethodName)) ∈ aw_all := aw_7 58 rfl rfl
theorem lk_1620 : (Cond.instanceMethod ({ cls := "BellHeirsModel", name := "leftOfAll", desc := "(I)I" } : MethodName)) ∈ aw_all := aw_7 60 rfl rfl
theorem lk_1621 : (Cond.code ({ cls := "BellHeirsModel", name := "leftOfAll", desc := "(I)I" } : MethodName) prog_14_method_23_code (4 : Nat) (Option.some FieldType.int)) ∈ aw_all := aw_7 61 rfl rfl
theorem lk_1622 : (Cond.methodLink "BellHeirsModel" (412 : Nat) ({ cls := "BellHeirsModel", name := "reckon", desc := "(IJJ)J" } : MethodName)) ∈ aw_all := aw_7 62 rfl rfl
theorem lk_1624 : (Cond.instanceMethod ({ cls := "BellHeirsModel", name := "reckon", desc := "(IJJ)J" } : MethodName)) ∈ aw_all := aw_7 64 rfl rfl
theorem lk_1625 : (Cond.code ({ cls := "BellHeirsModel", name := "reckon", desc := "(IJJ)J" } : MethodName) prog_14_method_70_code (6 : Nat) (Option.some FieldType.long)) ∈ aw_all := aw_7 65 rfl rfl
theorem lk_1626 : (Cond.constantLong "BellHeirsModel" (416 : Nat) (-1000000000 : Int64)) ∈ aw_all := aw_7 66 rfl rfl
theorem lk_1627 : (Cond.constantLong "BellHeirsModel" (418 : Nat) (1000000000 : Int64)) ∈ aw_all := aw_7 67 rfl rfl
theorem lk_1628 : (Cond.methodLink "BellHeirsModel" (442 : Nat) ({ cls := "BellHeirsModel", name := "within", desc := "(JII)I" } : MethodName)) ∈ aw_all := aw_7 68 rfl rfl
theorem lk_1629 : (Cond.static ({ cls := "BellHeirsModel", name := "within", desc := "(JII)I" } : MethodName)) ∈ aw_all := aw_7 69 rfl rfl
theorem lk_1630 : (Cond.code ({ cls := "BellHeirsModel", name := "within", desc := "(JII)I" } : MethodName) prog_14_method_6_code (4 : Nat) (Option.some FieldType.int)) ∈ aw_all := aw_7 70 rfl rfl
theorem lk_1631 : (Cond.methodLink "BellHeirsLaw" (26 : Nat) ({ cls := "BellHeirsModel", name := "person", desc := "(III)I" } : MethodName)) ∈ aw_all := aw_7 71 rfl rfl
theorem lk_1632 : (Cond.instanceMethod ({ cls := "BellHeirsModel", name := "person", desc := "(III)I" } : MethodName)) ∈ aw_all := aw_7 72 rfl rfl
theorem lk_1633 : (Cond.selects "BellHeirsModel" ({ cls := "BellHeirsModel", name := "person", desc := "(III)I" } : MethodName) ({ cls := "BellHeirsModel", name := "person", desc := "(III)I" } : MethodName)) ∈ aw_all := aw_7 73 rfl rfl
theorem lk_1634 : (Cond.code ({ cls := "BellHeirsModel", name := "person", desc := "(III)I" } : MethodName) prog_14_method_29_code (4 : Nat) (Option.some FieldType.int)) ∈ aw_all := aw_7 74 rfl rfl
theorem lk_1635 : (Cond.methodLink "BellHeirsModel" (219 : Nat) ({ cls := "BellHeirsModel", name := "come", desc := "(III)I" } : MethodName)) ∈ aw_all := aw_7 75 rfl rfl
theorem lk_1637 : (Cond.instanceMethod ({ cls := "BellHeirsModel", name := "come", desc := "(III)I" } : MethodName)) ∈ aw_all := aw_7 77 rfl rfl
theorem lk_1638 : (Cond.code ({ cls := "BellHeirsModel", name := "come", desc := "(III)I" } : MethodName) prog_14_method_28_code (6 : Nat) (Option.some FieldType.int)) ∈ aw_all := aw_7 78 rfl rfl
theorem lk_1639 : (Cond.constantLong "BellHeirsModel" (217 : Nat) (999 : Int64)) ∈ aw_all := aw_7 79 rfl rfl
theorem lk_1640 : (Cond.methodLink "BellHeirsLaw" (30 : Nat) ({ cls := "BellHeirsModel", name := "of", desc := "(II)I" } : MethodName)) ∈ aw_all := aw_7 80 rfl rfl
theorem lk_1641 : (Cond.instanceMethod ({ cls := "BellHeirsModel", name := "of", desc := "(II)I" } : MethodName)) ∈ aw_all := aw_7 81 rfl rfl
theorem lk_1642 : (Cond.selects "BellHeirsModel" ({ cls := "BellHeirsModel", name := "of", desc := "(II)I" } : MethodName) ({ cls := "BellHeirsModel", name := "of", desc := "(II)I" } : MethodName)) ∈ aw_all := aw_7 82 rfl rfl
theorem lk_1643 : (Cond.code ({ cls := "BellHeirsModel", name := "of", desc := "(II)I" } : MethodName) prog_14_method_30_code (3 : Nat) (Option.some FieldType.int)) ∈ aw_all := aw_7 83 rfl rfl
theorem lk_1644 : (Cond.methodLink "BellHeirsModel" (192 : Nat) ({ cls := "BellHeirsModel", name := "lives", desc := "(I)Z" } : MethodName)) ∈ aw_all := aw_7 84 rfl rfl
theorem lk_1646 : (Cond.instanceMethod ({ cls := "BellHeirsModel", name := "lives", desc := "(I)Z" } : MethodName)) ∈ aw_all := aw_7 86 rfl rfl
theorem lk_1647 : (Cond.code ({ cls := "BellHeirsModel", name := "lives", desc := "(I)Z" } : MethodName) prog_14_method_19_code (2 : Nat) (Option.some FieldType.boolean)) ∈ aw_all := aw_7 87 rfl rfl
theorem lk_1648 : (Cond.methodLink "BellHeirsLaw" (34 : Nat) ({ cls := "BellHeirsModel", name := "want", desc := "(II)I" } : MethodName)) ∈ aw_all := aw_7 88 rfl rfl
theorem lk_1649 : (Cond.instanceMethod ({ cls := "BellHeirsModel", name := "want", desc := "(II)I" } : MethodName)) ∈ aw_all := aw_7 89 rfl rfl
theorem lk_1650 : (Cond.selects "BellHeirsModel" ({ cls := "BellHeirsModel", name := "want", desc := "(II)I" } : MethodName) ({ cls := "BellHeirsModel", name := "want", desc := "(II)I" } : MethodName)) ∈ aw_all := aw_7 90 rfl rfl
theorem lk_1651 : (Cond.code ({ cls := "BellHeirsModel", name := "want", desc := "(II)I" } : MethodName) prog_14_method_31_code (3 : Nat) (Option.some FieldType.int)) ∈ aw_all := aw_7 91 rfl rfl
theorem lk_1652 : (Cond.methodLink "BellHeirsLaw" (38 : Nat) ({ cls := "BellHeirsModel", name := "will", desc := "(II)I" } : MethodName)) ∈ aw_all := aw_7 92 rfl rfl
theorem lk_1653 : (Cond.instanceMethod ({ cls := "BellHeirsModel", name := "will", desc := "(II)I" } : MethodName)) ∈ aw_all := aw_7 93 rfl rfl
theorem lk_1654 : (Cond.selects "BellHeirsModel" ({ cls := "BellHeirsModel", name := "will", desc := "(II)I" } : MethodName) ({ cls := "BellHeirsModel", name := "will", desc := "(II)I" } : MethodName)) ∈ aw_all := aw_7 94 rfl rfl
theorem lk_1655 : (Cond.code ({ cls := "BellHeirsModel", name := "will", desc := "(II)I" } : MethodName) prog_14_method_32_code (3 : Nat) (Option.some FieldType.int)) ∈ aw_all := aw_7 95 rfl rfl
theorem lk_1656 : (Cond.constantLong "BellHeirsModel" (226 : Nat) (7 : Int64)) ∈ aw_all := aw_7 96 rfl rfl
theorem lk_1657 : (Cond.methodLink "BellHeirsModel" (228 : Nat) ({ cls := "BellHeirsModel", name := "is", desc := "(II)Z" } : MethodName)) ∈ aw_all := aw_7 97 rfl rfl
theorem lk_1658 : (Cond.static ({ cls := "BellHeirsModel", name := "is", desc := "(II)Z" } : MethodName)) ∈ aw_all := aw_7 98 rfl rfl
theorem lk_1659 : (Cond.code ({ cls := "BellHeirsModel", name := "is", desc := "(II)Z" } : MethodName) prog_14_method_4_code (2 : Nat) (Option.some FieldType.boolean)) ∈ aw_all := aw_7 99 rfl rfl
theorem lk_1660 : (Cond.methodLink "BellHeirsModel" (232 : Nat) ({ cls := "BellHeirsModel", name := "change", desc := "(II)I" } : MethodName)) ∈ aw_all := aw_7 100 rfl rfl
theorem lk_1662 : (Cond.instanceMethod ({ cls := "BellHeirsModel", name := "change", desc := "(II)I" } : MethodName)) ∈ aw_all := aw_7 102 rfl rfl
theorem lk_1663 : (Cond.code ({ cls := "BellHeirsModel", name := "change", desc := "(II)I" } : MethodName) prog_14_method_8_code (4 : Nat) (Option.some FieldType.int)) ∈ aw_all := aw_7 103 rfl rfl
theorem lk_1664 : (Cond.methodLink "BellHeirsLaw" (42 : Nat) ({ cls := "BellHeirsModel", name := "right", desc := "(III)I" } : MethodName)) ∈ aw_all := aw_7 104 rfl rfl
theorem lk_1665 : (Cond.instanceMethod ({ cls := "BellHeirsModel", name := "right", desc := "(III)I" } : MethodName)) ∈ aw_all := aw_7 105 rfl rfl
theorem lk_1666 : (Cond.selects "BellHeirsModel" ({ cls := "BellHeirsModel", name := "right", desc := "(III)I" } : MethodName) ({ cls := "BellHeirsModel", name := "right", desc := "(III)I" } : MethodName)) ∈ aw_all := aw_7 106 rfl rfl
theorem lk_1667 : (Cond.code ({ cls := "BellHeirsModel", name := "right", desc := "(III)I" } : MethodName) prog_14_method_33_code (4 : Nat) (Option.some FieldType.int)) ∈ aw_all := aw_7 107 rfl rfl
theorem lk_1668 : (Cond.methodLink "BellHeirsLaw" (46 : Nat) ({ cls := "BellHeirsModel", name := "has", desc := "(III)I" } : MethodName)) ∈ aw_all := aw_7 108 rfl rfl
theorem lk_1669 : (Cond.instanceMethod ({ cls := "BellHeirsModel", name := "has", desc := "(III)I" } : MethodName)) ∈ aw_all := aw_7 109 rfl rfl
theorem lk_1670 : (Cond.selects "BellHeirsModel" ({ cls := "BellHeirsModel", name := "has", desc := "(III)I" } : MethodName) ({ cls := "BellHeirsModel", name := "has", desc := "(III)I" } : MethodName)) ∈ aw_all := aw_7 110 rfl rfl
theorem lk_1671 : (Cond.code ({ cls := "BellHeirsModel", name := "has", desc := "(III)I" } : MethodName) prog_14_method_34_code (4 : Nat) (Option.some FieldType.int)) ∈ aw_all := aw_7 111 rfl rfl
theorem lk_1672 : (Cond.methodLink "BellHeirsModel" (235 : Nat) ({ cls := "BellHeirsModel", name := "isOpen", desc := "(II)Z" } : MethodName)) ∈ aw_all := aw_7 112 rfl rfl
theorem lk_1674 : (Cond.instanceMethod ({ cls := "BellHeirsModel", name := "isOpen", desc := "(II)Z" } : MethodName)) ∈ aw_all := aw_7 114 rfl rfl
theorem lk_1675 : (Cond.code ({ cls := "BellHeirsModel", name := "isOpen", desc := "(II)Z" } : MethodName) prog_14_method_76_code (3 : Nat) (Option.some FieldType.boolean)) ∈ aw_all := aw_7 115 rfl rfl
theorem lk_1676 : (Cond.methodLink "BellHeirsModel" (432 : Nat) ({ cls := "BellHeirsModel", name := "tellsOpening", desc := "()Z" } : MethodName)) ∈ aw_all := aw_7 116 rfl rfl
theorem lk_1678 : (Cond.instanceMethod ({ cls := "BellHeirsModel", name := "tellsOpening", desc := "()Z" } : MethodName)) ∈ aw_all := aw_7 118 rfl rfl
theorem lk_1679 : (Cond.code ({ cls := "BellHeirsModel", name := "tellsOpening", desc := "()Z" } : MethodName) prog_14_method_75_code (3 : Nat) (Option.some FieldType.boolean)) ∈ aw_all := aw_7 119 rfl rfl
theorem lk_1680 : (Cond.methodLink "BellHeirsModel" (435 : Nat) ({ cls := "BellHeirsModel", name := "yearNow", desc := "()I" } : MethodName)) ∈ aw_all := aw_7 120 rfl rfl
theorem lk_1682 : (Cond.instanceMethod ({ cls := "BellHeirsModel", name := "yearNow", desc := "()I" } : MethodName)) ∈ aw_all := aw_7 122 rfl rfl
theorem lk_1683 : (Cond.code ({ cls := "BellHeirsModel", name := "yearNow", desc := "()I" } : MethodName) prog_14_method_74_code (1 : Nat) (Option.some FieldType.int)) ∈ aw_all := aw_7 123 rfl rfl
theorem lk_1684 : (Cond.methodLink "BellHeirsModel" (238 : Nat) ({ cls := "BellHeirsModel", name := "tiresOf", desc := "(II)I" } : MethodName)) ∈ aw_all := aw_7 124 rfl rfl
theorem lk_1686 : (Cond.instanceMethod ({ cls := "BellHeirsModel", name := "tiresOf", desc := "(II)I" } : MethodName)) ∈ aw_all := aw_7 126 rfl rfl
theorem lk_1687 : (Cond.code ({ cls := "BellHeirsModel", name := "tiresOf", desc := "(II)I" } : MethodName) prog_14_method_77_code (3 : Nat) (Option.some FieldType.int)) ∈ aw_all := aw_7 127 rfl rfl
theorem lk_1688 : (Cond.methodLink "BellHeirsLaw" (55 : Nat) ({ cls := "BellHeirsModel", name := "terms", desc := "(II)I" } : MethodName)) ∈ aw_all := aw_7 128 rfl rfl
theorem lk_1689 : (Cond.instanceMethod ({ cls := "BellHeirsModel", name := "terms", desc := "(II)I" } : MethodName)) ∈ aw_all := aw_7 129 rfl rfl
theorem lk_1690 : (Cond.selects "BellHeirsModel" ({ cls := "BellHeirsModel", name := "terms", desc := "(II)I" } : MethodName) ({ cls := "BellHeirsModel", name := "terms", desc := "(II)I" } : MethodName)) ∈ aw_all := aw_7 130 rfl rfl
theorem lk_1691 : (Cond.code ({ cls := "BellHeirsModel", name := "terms", desc := "(II)I" } : MethodName) prog_14_method_35_code (4 : Nat) (Option.some FieldType.int)) ∈ aw_all := aw_7 131 rfl rfl
theorem lk_1692 : (Cond.constantLong "BellHeirsModel" (243 : Nat) (9 : Int64)) ∈ aw_all := aw_7 132 rfl rfl
theorem lk_1693 : (Cond.methodLink "BellHeirsLaw" (70 : Nat) ({ cls := "BellHeirsModel", name := "row", desc := "()I" } : MethodName)) ∈ aw_all := aw_7 133 rfl rfl
theorem lk_1694 : (Cond.instanceMethod ({ cls := "BellHeirsModel", name := "row", desc := "()I" } : MethodName)) ∈ aw_all := aw_7 134 rfl rfl
theorem lk_1695 : (Cond.selects "BellHeirsModel" ({ cls := "BellHeirsModel", name := "row", desc := "()I" } : MethodName) ({ cls := "BellHeirsModel", name := "row", desc := "()I" } : MethodName)) ∈ aw_all := aw_7 135 rfl rfl
theorem lk_1696 : (Cond.code ({ cls := "BellHeirsModel", name := "row", desc := "()I" } : MethodName) prog_14_method_36_code (4 : Nat) (Option.some FieldType.int)) ∈ aw_all := aw_7 136 rfl rfl
theorem lk_1697 : (Cond.methodLink "BellHeirsLaw" (74 : Nat) ({ cls := "BellHeirsModel", name := "rust", desc := "()I" } : MethodName)) ∈ aw_all := aw_7 137 rfl rfl
theorem lk_1698 : (Cond.instanceMethod ({ cls := "BellHeirsModel", name := "rust", desc := "()I" } : MethodName)) ∈ aw_all := aw_7 138 rfl rfl
theorem lk_1699 : (Cond.selects "BellHeirsModel" ({ cls := "BellHeirsModel", name := "rust", desc := "()I" } : MethodName) ({ cls := "BellHeirsModel", name := "rust", desc := "()I" } : MethodName)) ∈ aw_all := aw_7 139 rfl rfl
theorem lk_1700 : (Cond.code ({ cls := "BellHeirsModel", name := "rust", desc := "()I" } : MethodName) prog_14_method_37_code (1 : Nat) (Option.some FieldType.int)) ∈ aw_all := aw_7 140 rfl rfl
theorem lk_1701 : (Cond.methodLink "BellHeirsLaw" (60 : Nat) ({ cls := "BellHeirsModel", name := "feed", desc := "(IIIII)I" } : MethodName)) ∈ aw_all := aw_7 141 rfl rfl
theorem lk_1702 : (Cond.instanceMethod ({ cls := "BellHeirsModel", name := "feed", desc := "(IIIII)I" } : MethodName)) ∈ aw_all := aw_7 142 rfl rfl
theorem lk_1703 : (Cond.selects "BellHeirsModel" ({ cls := "BellHeirsModel", name := "feed", desc := "(IIIII)I" } : MethodName) ({ cls := "BellHeirsModel", name := "feed", desc := "(IIIII)I" } : MethodName)) ∈ aw_all := aw_7 143 rfl rfl
theorem lk_1704 : (Cond.code ({ cls := "BellHeirsModel", name := "feed", desc := "(IIIII)I" } : MethodName) prog_14_method_39_code (6 : Nat) (Option.some FieldType.int)) ∈ aw_all := aw_7 144 rfl rfl
theorem lk_1705 : (Cond.methodLink "BellHeirsModel" (251 : Nat) ({ cls := "BellHeirsModel", name := "four", desc := "(I)V" } : MethodName)) ∈ aw_all := aw_7 145 rfl rfl
theorem lk_1707 : (Cond.instanceMethod ({ cls := "BellHeirsModel", name := "four", desc := "(I)V" } : MethodName)) ∈ aw_all := aw_7 147 rfl rfl
theorem lk_1708 : (Cond.code ({ cls := "BellHeirsModel", name := "four", desc := "(I)V" } : MethodName) prog_14_method_38_code (3 : Nat) (Option.none : Option Jvm.ClassFile.FieldType)) ∈ aw_all := aw_7 148 rfl rfl
theorem lk_1709 : (Cond.methodLink "BellHeirsLaw" (65 : Nat) ({ cls := "BellHeirsModel", name := "end", desc := "(I)I" } : MethodName)) ∈ aw_all := aw_7 149 rfl rfl
theorem lk_1710 : (Cond.instanceMethod ({ cls := "BellHeirsModel", name := "end", desc := "(I)I" } : MethodName)) ∈ aw_all := aw_7 150 rfl rfl
theorem lk_1711 : (Cond.selects "BellHeirsModel" ({ cls := "BellHeirsModel", name := "end", desc := "(I)I" } : MethodName) ({ cls := "BellHeirsModel", name := "end", desc := "(I)I" } : MethodName)) ∈ aw_all := aw_7 151 rfl rfl
theorem lk_1712 : (Cond.code ({ cls := "BellHeirsModel", name := "end", desc := "(I)I" } : MethodName) prog_14_method_40_code (2 : Nat) (Option.some FieldType.int)) ∈ aw_all := aw_7 152 rfl rfl
theorem lk_1713 : (Cond.methodLink "BellHeirsLaw" (86 : Nat) ({ cls := "BellHeirsModel", name := "fault", desc := "()I" } : MethodName)) ∈ aw_all := aw_7 153 rfl rfl
theorem lk_1714 : (Cond.instanceMethod ({ cls := "BellHeirsModel", name := "fault", desc := "()I" } : MethodName)) ∈ aw_all := aw_7 154 rfl rfl
theorem lk_1715 : (Cond.selects "BellHeirsModel" ({ cls := "BellHeirsModel", name := "fault", desc := "()I" } : MethodName) ({ cls := "BellHeirsModel", name := "fault", desc := "()I" } : MethodName)) ∈ aw_all := aw_7 155 rfl rfl
theorem lk_1716 : (Cond.code ({ cls := "BellHeirsModel", name := "fault", desc := "()I" } : MethodName) prog_14_method_49_code (1 : Nat) (Option.some FieldType.int)) ∈ aw_all := aw_7 156 rfl rfl
theorem lk_1717 : (Cond.methodLink "BellHeirsLaw" (78 : Nat) ({ cls := "BellHeirsModel", name := "law", desc := "()I" } : MethodName)) ∈ aw_all := aw_7 157 rfl rfl
theorem lk_1718 : (Cond.instanceMethod ({ cls := "BellHeirsModel", name := "law", desc := "()I" } : MethodName)) ∈ aw_all := aw_7 158 rfl rfl
theorem lk_1719 : (Cond.selects "BellHeirsModel" ({ cls := "BellHeirsModel", name := "law", desc := "()I" } : MethodName) ({ cls := "BellHeirsModel", name := "law", desc := "()I" } : MethodName)) ∈ aw_all := aw_7 159 rfl rfl
theorem lk_1720 : (Cond.code ({ cls := "BellHeirsModel", name := "law", desc := "()I" } : MethodName) prog_14_method_68_code (3 : Nat) (Option.some FieldType.int)) ∈ aw_all := aw_7 160 rfl rfl
theorem lk_1721 : (Cond.methodLink "BellHeirsModel" (394 : Nat) ({ cls := "BellHeirsModel", name := "beginText", desc := "(Z)V" } : MethodName)) ∈ aw_all := aw_7 161 rfl rfl
theorem lk_1723 : (Cond.instanceMethod ({ cls := "BellHeirsModel", name := "beginText", desc := "(Z)V" } : MethodName)) ∈ aw_all := aw_7 163 rfl rfl
theorem lk_1724 : (Cond.code ({ cls := "BellHeirsModel", name := "beginText", desc := "(Z)V" } : MethodName) prog_14_method_65_code (2 : Nat) (Option.none : Option Jvm.ClassFile.FieldType)) ∈ aw_all := aw_7 164 rfl rfl
theorem lk_1725 : (Cond.methodLink "BellHeirsModel" (383 : Nat) ({ cls := "BellHeirsModel", name := "begin", desc := "()V" } : MethodName)) ∈ aw_all := aw_7 165 rfl rfl
theorem lk_1727 : (Cond.instanceMethod ({ cls := "BellHeirsModel", name := "begin", desc := "()V" } : MethodName)) ∈ aw_all := aw_7 167 rfl rfl
theorem lk_1728 : (Cond.code ({ cls := "BellHeirsModel", name := "begin", desc := "()V" } : MethodName) prog_14_method_43_code (1 : Nat) (Option.none : Option Jvm.ClassFile.FieldType)) ∈ aw_all := aw_7 168 rfl rfl
theorem lk_1729 : (Cond.methodLink "BellHeirsModel" (261 : Nat) ({ cls := "BellHeirsModel", name := "next", desc := "()V" } : MethodName)) ∈ aw_all := aw_7 169 rfl rfl
theorem lk_1731 : (Cond.instanceMethod ({ cls := "BellHeirsModel", name := "next", desc := "()V" } : MethodName)) ∈ aw_all := aw_7 171 rfl rfl
theorem lk_1732 : (Cond.code ({ cls := "BellHeirsModel", name := "next", desc := "()V" } : MethodName) prog_14_method_44_code (1 : Nat) (Option.none : Option Jvm.ClassFile.FieldType)) ∈ aw_all := aw_7 172 rfl rfl
theorem lk_1733 : (Cond.methodLink "BellHeirsModel" (271 : Nat) ({ cls := "BellHeirsModel", name := "isSmall", desc := "(I)Z" } : MethodName)) ∈ aw_all := aw_7 173 rfl rfl
theorem lk_1734 : (Cond.static ({ cls := "BellHeirsModel", name := "isSmall", desc := "(I)Z" } : MethodName)) ∈ aw_all := aw_7 174 rfl rfl
theorem lk_1735 : (Cond.code ({ cls := "BellHeirsModel", name := "isSmall", desc := "(I)Z" } : MethodName) prog_14_method_41_code (1 : Nat) (Option.some FieldType.boolean)) ∈ aw_all := aw_7 175 rfl rfl
theorem lk_1736 : (Cond.methodLink "BellHeirsModel" (274 : Nat) ({ cls := "BellHeirsModel", name := "isDigit", desc := "(I)Z" } : MethodName)) ∈ aw_all := aw_7 176 rfl rfl
theorem lk_1737 : (Cond.static ({ cls := "BellHeirsModel", name := "isDigit", desc := "(I)Z" } : MethodName)) ∈ aw_all := aw_7 177 rfl rfl
theorem lk_1738 : (Cond.code ({ cls := "BellHeirsModel", name := "isDigit", desc := "(I)Z" } : MethodName) prog_14_method_42_code (1 : Nat) (Option.some FieldType.boolean)) ∈ aw_all := aw_7 178 rfl rfl
theorem lk_1739 : (Cond.constantLong "BellHeirsModel" (280 : Nat) (32 : Int64)) ∈ aw_all := aw_7 179 rfl rfl
theorem lk_1740 : (Cond.constantLong "BellHeirsModel" (282 : Nat) (96 : Int64)) ∈ aw_all := aw_7 180 rfl rfl
theorem lk_1741 : (Cond.constantLong "BellHeirsModel" (286 : Nat) (1000000 : Int64)) ∈ aw_all := aw_7 181 rfl rfl
theorem lk_1742 : (Cond.constantLong "BellHeirsModel" (288 : Nat) (48 : Int64)) ∈ aw_all := aw_7 182 rfl rfl
theorem lk_1743 : (Cond.methodLink "BellHeirsModel" (397 : Nat) ({ cls := "BellHeirsModel", name := "readLaw", desc := "()V" } : MethodName)) ∈ aw_all := aw_7 183 rfl rfl
theorem lk_1745 : (Cond.instanceMethod ({ cls := "BellHeirsModel", name := "readLaw", desc := "()V" } : MethodName)) ∈ aw_all := aw_7 185 rfl rfl
theorem lk_1746 : (Cond.code ({ cls := "BellHeirsModel", name := "readLaw", desc := "()V" } : MethodName) prog_14_method_67_code (4 : Nat) (Option.none : Option Jvm.ClassFile.FieldType)) ∈ aw_all := aw_7 186 rfl rfl
theorem lk_1747 : (Cond.methodLink "BellHeirsModel" (313 : Nat) ({ cls := "BellHeirsModel", name := "isWord", desc := "(J)Z" } : MethodName)) ∈ aw_all := aw_7 187 rfl rfl
theorem lk_1749 : (Cond.instanceMethod ({ cls := "BellHeirsModel", name := "isWord", desc := "(J)Z" } : MethodName)) ∈ aw_all := aw_7 189 rfl rfl
theorem lk_1750 : (Cond.code ({ cls := "BellHeirsModel", name := "isWord", desc := "(J)Z" } : MethodName) prog_14_method_45_code (3 : Nat) (Option.some FieldType.boolean)) ∈ aw_all := aw_7 190 rfl rfl
theorem lk_1751 : (Cond.methodLink "BellHeirsModel" (290 : Nat) ({ cls := "BellHeirsModel", name := "must", desc := "(Z)V" } : MethodName)) ∈ aw_all := aw_7 191 rfl rfl
theorem lk_1753 : (Cond.instanceMethod ({ cls := "BellHeirsModel", name := "must", desc := "(Z)V" } : MethodName)) ∈ aw_all := aw_7 193 rfl rfl
theorem lk_1754 : (Cond.code ({ cls := "BellHeirsModel", name := "must", desc := "(Z)V" } : MethodName) prog_14_method_47_code (2 : Nat) (Option.none : Option Jvm.ClassFile.FieldType)) ∈ aw_all := aw_7 194 rfl rfl
theorem lk_1755 : (Cond.methodLink "BellHeirsModel" (389 : Nat) ({ cls := "BellHeirsModel", name := "readExpression", desc := "(Z)V" } : MethodName)) ∈ aw_all := aw_7 195 rfl rfl
theorem lk_1757 : (Cond.instanceMethod ({ cls := "BellHeirsModel", name := "readExpression", desc := "(Z)V" } : MethodName)) ∈ aw_all := aw_7 197 rfl rfl
theorem lk_1758 : (Cond.code ({ cls := "BellHeirsModel", name := "readExpression", desc := "(Z)V" } : MethodName) prog_14_method_64_code (3 : Nat) (Option.none : Option Jvm.ClassFile.FieldType)) ∈ aw_all := aw_7 198 rfl rfl
theorem lk_1759 : (Cond.methodLink "BellHeirsModel" (373 : Nat) ({ cls := "BellHeirsModel", name := "readPlain", desc := "()I" } : MethodName)) ∈ aw_all := aw_7 199 rfl rfl
theorem lk_1761 : (Cond.instanceMethod ({ cls := "BellHeirsModel", name := "readPlain", desc := "()I" } : MethodName)) ∈ aw_all := aw_7 201 rfl rfl
theorem lk_1762 : (Cond.code ({ cls := "BellHeirsModel", name := "readPlain", desc := "()I" } : MethodName) prog_14_method_61_code (1 : Nat) (Option.some FieldType.int)) ∈ aw_all := aw_7 202 rfl rfl
theorem lk_1763 : (Cond.constantLong "BellHeirsModel" (354 : Nat) (14836 : Int64)) ∈ aw_all := aw_7 203 rfl rfl
theorem lk_1764 : (Cond.methodLink "BellHeirsModel" (320 : Nat) ({ cls := "BellHeirsModel", name := "push", desc := "(II)V" } : MethodName)) ∈ aw_all := aw_7 204 rfl rfl
theorem lk_1766 : (Cond.instanceMethod ({ cls := "BellHeirsModel", name := "push", desc := "(II)V" } : MethodName)) ∈ aw_all := aw_7 206 rfl rfl
theorem lk_1767 : (Cond.code ({ cls := "BellHeirsModel", name := "push", desc := "(II)V" } : MethodName) prog_14_method_51_code (3 : Nat) (Option.none : Option Jvm.ClassFile.FieldType)) ∈ aw_all := aw_7 207 rfl rfl
theorem lk_1768 : (Cond.methodLink "BellHeirsModel" (326 : Nat) ({ cls := "BellHeirsModel", name := "isSign", desc := "(I)Z" } : MethodName)) ∈ aw_all := aw_7 208 rfl rfl
theorem lk_1770 : (Cond.instanceMethod ({ cls := "BellHeirsModel", name := "isSign", desc := "(I)Z" } : MethodName)) ∈ aw_all := aw_7 210 rfl rfl
theorem lk_1771 : (Cond.code ({ cls := "BellHeirsModel", name := "isSign", desc := "(I)Z" } : MethodName) prog_14_method_46_code (2 : Nat) (Option.some FieldType.boolean)) ∈ aw_all := aw_7 211 rfl rfl
theorem lk_1772 : (Cond.methodLink "BellHeirsModel" (329 : Nat) ({ cls := "BellHeirsModel", name := "openBracket", desc := "(I)V" } : MethodName)) ∈ aw_all := aw_7 212 rfl rfl
theorem lk_1774 : (Cond.instanceMethod ({ cls := "BellHeirsModel", name := "openBracket", desc := "(I)V" } : MethodName)) ∈ aw_all := aw_7 214 rfl rfl
theorem lk_1775 : (Cond.code ({ cls := "BellHeirsModel", name := "openBracket", desc := "(I)V" } : MethodName) prog_14_method_58_code (2 : Nat) (Option.none : Option Jvm.ClassFile.FieldType)) ∈ aw_all := aw_7 215 rfl rfl
theorem lk_1776 : (Cond.methodLink "BellHeirsModel" (356 : Nat) ({ cls := "BellHeirsModel", name := "readPart", desc := "()I" } : MethodName)) ∈ aw_all := aw_7 216 rfl rfl
theorem lk_1778 : (Cond.instanceMethod ({ cls := "BellHeirsModel", name := "readPart", desc := "()I" } : MethodName)) ∈ aw_all := aw_7 218 rfl rfl
theorem lk_1779 : (Cond.code ({ cls := "BellHeirsModel", name := "readPart", desc := "()I" } : MethodName) prog_14_method_60_code (4 : Nat) (Option.some FieldType.int)) ∈ aw_all := aw_7 219 rfl rfl
theorem lk_1780 : (Cond.methodLink "BellHeirsModel" (335 : Nat) ({ cls := "BellHeirsModel", name := "orderPartAt", desc := "()I" } : MethodName)) ∈ aw_all := aw_7 220 rfl rfl
theorem lk_1782 : (Cond.instanceMethod ({ cls := "BellHeirsModel", name := "orderPartAt", desc := "()I" } : MethodName)) ∈ aw_all := aw_7 222 rfl rfl
theorem lk_1783 : (Cond.code ({ cls := "BellHeirsModel", name := "orderPartAt", desc := "()I" } : MethodName) prog_14_method_57_code (3 : Nat) (Option.some FieldType.int)) ∈ aw_all := aw_7 223 rfl rfl
theorem lk_1784 : (Cond.methodLink "BellHeirsModel" (339 : Nat) ({ cls := "BellHeirsModel", name := "partAt", desc := "()I" } : MethodName)) ∈ aw_all := aw_7 224 rfl rfl
theorem lk_1786 : (Cond.instanceMethod ({ cls := "BellHeirsModel", name := "partAt", desc := "()I" } : MethodName)) ∈ aw_all := aw_7 226 rfl rfl
theorem lk_1787 : (Cond.code ({ cls := "BellHeirsModel", name := "partAt", desc := "()I" } : MethodName) prog_14_method_56_code (3 : Nat) (Option.some FieldType.int)) ∈ aw_all := aw_7 227 rfl rfl
theorem lk_1788 : (Cond.constantLong "BellHeirsModel" (342 : Nat) (1000 : Int64)) ∈ aw_all := aw_7 228 rfl rfl
theorem lk_1789 : (Cond.methodLink "BellHeirsModel" (344 : Nat) ({ cls := "BellHeirsModel", name := "leaf", desc := "(ZII)V" } : MethodName)) ∈ aw_all := aw_7 229 rfl rfl
theorem lk_1791 : (Cond.instanceMethod ({ cls := "BellHeirsModel", name := "leaf", desc := "(ZII)V" } : MethodName)) ∈ aw_all := aw_7 231 rfl rfl
theorem lk_1792 : (Cond.code ({ cls := "BellHeirsModel", name := "leaf", desc := "(ZII)V" } : MethodName) prog_14_method_59_code (4 : Nat) (Option.none : Option Jvm.ClassFile.FieldType)) ∈ aw_all := aw_7 232 rfl rfl
theorem lk_1793 : (Cond.methodLink "BellHeirsModel" (303 : Nat) ({ cls := "BellHeirsModel", name := "emit", desc := "(II)V" } : MethodName)) ∈ aw_all := aw_7 233 rfl rfl
theorem lk_1795 : (Cond.instanceMethod ({ cls := "BellHeirsModel", name := "emit", desc := "(II)V" } : MethodName)) ∈ aw_all := aw_7 235 rfl rfl
theorem lk_1796 : (Cond.code ({ cls := "BellHeirsModel", name := "emit", desc := "(II)V" } : MethodName) prog_14_method_50_code (3 : Nat) (Option.none : Option Jvm.ClassFile.FieldType)) ∈ aw_all := aw_7 236 rfl rfl
theorem lk_1797 : (Cond.constantLong "BellHeirsModel" (348 : Nat) (5 : Int64)) ∈ aw_all := aw_7 237 rfl rfl
theorem lk_1798 : (Cond.methodLink "BellHeirsModel" (350 : Nat) ({ cls := "BellHeirsModel", name := "number", desc := "(JJ)I" } : MethodName)) ∈ aw_all := aw_7 238 rfl rfl
theorem lk_1800 : (Cond.instanceMethod ({ cls := "BellHeirsModel", name := "number", desc := "(JJ)I" } : MethodName)) ∈ aw_all := aw_8 0 rfl rfl
theorem lk_1801 : (Cond.code ({ cls := "BellHeirsModel", name := "number", desc := "(JJ)I" } : MethodName) prog_14_method_48_code (6 : Nat) (Option.some FieldType.int)) ∈ aw_all := aw_8 1 rfl rfl
theorem lk_1802 : (Cond.methodLink "BellHeirsModel" (376 : Nat) ({ cls := "BellHeirsModel", name := "behindSum", desc := "(Z)I" } : MethodName)) ∈ aw_all := aw_8 2 rfl rfl
theorem lk_1804 : (Cond.instanceMethod ({ cls := "BellHeirsModel", name := "behindSum", desc := "(Z)I" } : MethodName)) ∈ aw_all := aw_8 4 rfl rfl
theorem lk_1805 : (Cond.code ({ cls := "BellHeirsModel", name := "behindSum", desc := "(Z)I" } : MethodName) prog_14_method_62_code (4 : Nat) (Option.some FieldType.int)) ∈ aw_all := aw_8 5 rfl rfl
theorem lk_1806 : (Cond.methodLink "BellHeirsModel" (300 : Nat) ({ cls := "BellHeirsModel", name := "binds", desc := "(I)I" } : MethodName)) ∈ aw_all := aw_8 6 rfl rfl
theorem lk_1807 : (Cond.static ({ cls := "BellHeirsModel", name := "binds", desc := "(I)I" } : MethodName)) ∈ aw_all := aw_8 7 rfl rfl
theorem lk_1808 : (Cond.code ({ cls := "BellHeirsModel", name := "binds", desc := "(I)I" } : MethodName) prog_14_method_52_code (1 : Nat) (Option.some FieldType.int)) ∈ aw_all := aw_8 8 rfl rfl
theorem lk_1809 : (Cond.methodLink "BellHeirsModel" (359 : Nat) ({ cls := "BellHeirsModel", name := "settle", desc := "(I)V" } : MethodName)) ∈ aw_all := aw_8 9 rfl rfl
theorem lk_1811 : (Cond.instanceMethod ({ cls := "BellHeirsModel", name := "settle", desc := "(I)V" } : MethodName)) ∈ aw_all := aw_8 11 rfl rfl
theorem lk_1812 : (Cond.code ({ cls := "BellHeirsModel", name := "settle", desc := "(I)V" } : MethodName) prog_14_method_53_code (2 : Nat) (Option.none : Option Jvm.ClassFile.FieldType)) ∈ aw_all := aw_8 12 rfl rfl
theorem lk_1813 : (Cond.methodLink "BellHeirsModel" (362 : Nat) ({ cls := "BellHeirsModel", name := "inner", desc := "()I" } : MethodName)) ∈ aw_all := aw_8 13 rfl rfl
theorem lk_1815 : (Cond.instanceMethod ({ cls := "BellHeirsModel", name := "inner", desc := "()I" } : MethodName)) ∈ aw_all := aw_8 15 rfl rfl
theorem lk_1816 : (Cond.code ({ cls := "BellHeirsModel", name := "inner", desc := "()I" } : MethodName) prog_14_method_54_code (3 : Nat) (Option.some FieldType.int)) ∈ aw_all := aw_8 16 rfl rfl
theorem lk_1817 : (Cond.methodLink "BellHeirsModel" (365 : Nat) ({ cls := "BellHeirsModel", name := "isCompared", desc := "()Z" } : MethodName)) ∈ aw_all := aw_8 17 rfl rfl
theorem lk_1819 : (Cond.instanceMethod ({ cls := "BellHeirsModel", name := "isCompared", desc := "()Z" } : MethodName)) ∈ aw_all := aw_8 19 rfl rfl
theorem lk_1820 : (Cond.code ({ cls := "BellHeirsModel", name := "isCompared", desc := "()Z" } : MethodName) prog_14_method_55_code (2 : Nat) (Option.some FieldType.boolean)) ∈ aw_all := aw_8 20 rfl rfl
theorem lk_1821 : (Cond.constantLong "BellHeirsModel" (307 : Nat) (20 : Int64)) ∈ aw_all := aw_8 21 rfl rfl
theorem lk_1822 : (Cond.constantLong "BellHeirsModel" (309 : Nat) (25 : Int64)) ∈ aw_all := aw_8 22 rfl rfl
theorem lk_1823 : (Cond.constantLong "BellHeirsModel" (311 : Nat) (27 : Int64)) ∈ aw_all := aw_8 23 rfl rfl
theorem lk_1824 : (Cond.methodLink "BellHeirsModel" (380 : Nat) ({ cls := "BellHeirsModel", name := "behindTest", desc := "()I" } : MethodName)) ∈ aw_all := aw_8 24 rfl rfl
theorem lk_1826 : (Cond.instanceMethod ({ cls := "BellHeirsModel", name := "behindTest", desc := "()I" } : MethodName)) ∈ aw_all := aw_8 26 rfl rfl
theorem lk_1827 : (Cond.code ({ cls := "BellHeirsModel", name := "behindTest", desc := "()I" } : MethodName) prog_14_method_63_code (2 : Nat) (Option.some FieldType.int)) ∈ aw_all := aw_8 27 rfl rfl
theorem lk_1828 : (Cond.constantLong "BellHeirsModel" (369 : Nat) (1476 : Int64)) ∈ aw_all := aw_8 28 rfl rfl
theorem lk_1829 : (Cond.constantLong "BellHeirsModel" (371 : Nat) (498 : Int64)) ∈ aw_all := aw_8 29 rfl rfl
theorem lk_1830 : (Cond.constantLong "BellHeirsModel" (392 : Nat) (294 : Int64)) ∈ aw_all := aw_8 30 rfl rfl
theorem lk_1831 : (Cond.methodLink "BellHeirsModel" (400 : Nat) ({ cls := "BellHeirsModel", name := "endText", desc := "()V" } : MethodName)) ∈ aw_all := aw_8 31 rfl rfl
theorem lk_1833 : (Cond.instanceMethod ({ cls := "BellHeirsModel", name := "endText", desc := "()V" } : MethodName)) ∈ aw_all := aw_8 33 rfl rfl
theorem lk_1834 : (Cond.code ({ cls := "BellHeirsModel", name := "endText", desc := "()V" } : MethodName) prog_14_method_66_code (1 : Nat) (Option.none : Option Jvm.ClassFile.FieldType)) ∈ aw_all := aw_8 34 rfl rfl
theorem lk_1835 : (Cond.methodLink "BellHeirsLaw" (94 : Nat) ({ cls := "BellHeirsModel", name := "force", desc := "(I)I" } : MethodName)) ∈ aw_all := aw_8 35 rfl rfl
theorem lk_1836 : (Cond.instanceMethod ({ cls := "BellHeirsModel", name := "force", desc := "(I)I" } : MethodName)) ∈ aw_all := aw_8 36 rfl rfl
theorem lk_1837 : (Cond.selects "BellHeirsModel" ({ cls := "BellHeirsModel", name := "force", desc := "(I)I" } : MethodName) ({ cls := "BellHeirsModel", name := "force", desc := "(I)I" } : MethodName)) ∈ aw_all := aw_8 37 rfl rfl
theorem lk_1838 : (Cond.code ({ cls := "BellHeirsModel", name := "force", desc := "(I)I" } : MethodName) prog_14_method_69_code (2 : Nat) (Option.some FieldType.int)) ∈ aw_all := aw_8 38 rfl rfl
theorem lk_1839 : (Cond.methodLink "BellHeirsLaw" (51 : Nat) ({ cls := "BellHeirsModel", name := "asks", desc := "(IIII)I" } : MethodName)) ∈ aw_all := aw_8 39 rfl rfl
theorem lk_1840 : (Cond.instanceMethod ({ cls := "BellHeirsModel", name := "asks", desc := "(IIII)I" } : MethodName)) ∈ aw_all := aw_8 40 rfl rfl
theorem lk_1841 : (Cond.selects "BellHeirsModel" ({ cls := "BellHeirsModel", name := "asks", desc := "(IIII)I" } : MethodName) ({ cls := "BellHeirsModel", name := "asks", desc := "(IIII)I" } : MethodName)) ∈ aw_all := aw_8 41 rfl rfl
theorem lk_1842 : (Cond.code ({ cls := "BellHeirsModel", name := "asks", desc := "(IIII)I" } : MethodName) prog_14_method_83_code (6 : Nat) (Option.some FieldType.int)) ∈ aw_all := aw_8 42 rfl rfl
theorem lk_1843 : (Cond.constantLong "BellHeirsModel" (456 : Nat) (2 : Int64)) ∈ aw_all := aw_8 43 rfl rfl
theorem lk_1844 : (Cond.methodLink "BellHeirsModel" (446 : Nat) ({ cls := "BellHeirsModel", name := "isBarred", desc := "(III)Z" } : MethodName)) ∈ aw_all := aw_8 44 rfl rfl
theorem lk_1846 : (Cond.instanceMethod ({ cls := "BellHeirsModel", name := "isBarred", desc := "(III)Z" } : MethodName)) ∈ aw_all := aw_8 46 rfl rfl
theorem lk_1847 : (Cond.code ({ cls := "BellHeirsModel", name := "isBarred", desc := "(III)Z" } : MethodName) prog_14_method_80_code (4 : Nat) (Option.some FieldType.boolean)) ∈ aw_all := aw_8 47 rfl rfl
theorem lk_1848 : (Cond.methodLink "BellHeirsModel" (458 : Nat) ({ cls := "BellHeirsModel", name := "canSell", desc := "(III)Z" } : MethodName)) ∈ aw_all := aw_8 48 rfl rfl
theorem lk_1850 : (Cond.instanceMethod ({ cls := "BellHeirsModel", name := "canSell", desc := "(III)Z" } : MethodName)) ∈ aw_all := aw_8 50 rfl rfl
theorem lk_1851 : (Cond.code ({ cls := "BellHeirsModel", name := "canSell", desc := "(III)Z" } : MethodName) prog_14_method_82_code (4 : Nat) (Option.some FieldType.boolean)) ∈ aw_all := aw_8 51 rfl rfl
theorem lk_1852 : (Cond.methodLink "BellHeirsModel" (453 : Nat) ({ cls := "BellHeirsModel", name := "canBuy", desc := "(III)Z" } : MethodName)) ∈ aw_all := aw_8 52 rfl rfl
theorem lk_1854 : (Cond.instanceMethod ({ cls := "BellHeirsModel", name := "canBuy", desc := "(III)Z" } : MethodName)) ∈ aw_all := aw_8 54 rfl rfl
theorem lk_1855 : (Cond.code ({ cls := "BellHeirsModel", name := "canBuy", desc := "(III)Z" } : MethodName) prog_14_method_81_code (4 : Nat) (Option.some FieldType.boolean)) ∈ aw_all := aw_8 55 rfl rfl
theorem lk_1856 : (Cond.methodLink "BellHeirsModel" (450 : Nat) ({ cls := "BellHeirsModel", name := "costsOf", desc := "(III)I" } : MethodName)) ∈ aw_all := aw_8 56 rfl rfl
theorem lk_1858 : (Cond.instanceMethod ({ cls := "BellHeirsModel", name := "costsOf", desc := "(III)I" } : MethodName)) ∈ aw_all := aw_8 58 rfl rfl
theorem lk_1859 : (Cond.code ({ cls := "BellHeirsModel", name := "costsOf", desc := "(III)I" } : MethodName) prog_14_method_79_code (4 : Nat) (Option.some FieldType.int)) ∈ aw_all := aw_8 59 rfl rfl
theorem lk_1860 : (Cond.methodLink "BellHeirsLaw" (98 : Nat) ({ cls := "BellHeirsModel", name := "ring", desc := "(II)I" } : MethodName)) ∈ aw_all := aw_8 60 rfl rfl
theorem lk_1861 : (Cond.instanceMethod ({ cls := "BellHeirsModel", name := "ring", desc := "(II)I" } : MethodName)) ∈ aw_all := aw_8 61 rfl rfl
theorem lk_1862 : (Cond.selects "BellHeirsModel" ({ cls := "BellHeirsModel", name := "ring", desc := "(II)I" } : MethodName) ({ cls := "BellHeirsModel", name := "ring", desc := "(II)I" } : MethodName)) ∈ aw_all := aw_8 62 rfl rfl
theorem lk_1863 : (Cond.code ({ cls := "BellHeirsModel", name := "ring", desc := "(II)I" } : MethodName) prog_14_method_87_code (3 : Nat) (Option.some FieldType.int)) ∈ aw_all := aw_8 63 rfl rfl
theorem lk_1864 : (Cond.methodLink "BellHeirsModel" (470 : Nat) ({ cls := "BellHeirsModel", name := "ringNow", desc := "(II)I" } : MethodName)) ∈ aw_all := aw_8 64 rfl rfl
theorem lk_1866 : (Cond.instanceMethod ({ cls := "BellHeirsModel", name := "ringNow", desc := "(II)I" } : MethodName)) ∈ aw_all := aw_8 66 rfl rfl
theorem lk_1867 : (Cond.code ({ cls := "BellHeirsModel", name := "ringNow", desc := "(II)I" } : MethodName) prog_14_method_86_code (3 : Nat) (Option.some FieldType.int)) ∈ aw_all := aw_8 67 rfl rfl
theorem lk_1868 : (Cond.methodLink "BellHeirsModel" (461 : Nat) ({ cls := "BellHeirsModel", name := "canRing", desc := "(II)Z" } : MethodName)) ∈ aw_all := aw_8 68 rfl rfl
theorem lk_1870 : (Cond.instanceMethod ({ cls := "BellHeirsModel", name := "canRing", desc := "(II)Z" } : MethodName)) ∈ aw_all := aw_8 70 rfl rfl
theorem lk_1871 : (Cond.code ({ cls := "BellHeirsModel", name := "canRing", desc := "(II)Z" } : MethodName) prog_14_method_84_code (3 : Nat) (Option.some FieldType.boolean)) ∈ aw_all := aw_8 71 rfl rfl
theorem lk_1872 : (Cond.methodLink "BellHeirsModel" (464 : Nat) ({ cls := "BellHeirsModel", name := "remember", desc := "(I)V" } : MethodName)) ∈ aw_all := aw_8 72 rfl rfl
theorem lk_1874 : (Cond.instanceMethod ({ cls := "BellHeirsModel", name := "remember", desc := "(I)V" } : MethodName)) ∈ aw_all := aw_8 74 rfl rfl
theorem lk_1875 : (Cond.code ({ cls := "BellHeirsModel", name := "remember", desc := "(I)V" } : MethodName) prog_14_method_12_code (3 : Nat) (Option.none : Option Jvm.ClassFile.FieldType)) ∈ aw_all := aw_8 75 rfl rfl
theorem lk_1876 : (Cond.methodLink "BellHeirsModel" (176 : Nat) ({ cls := "BellHeirsModel", name := "keepAll", desc := "(I)V" } : MethodName)) ∈ aw_all := aw_8 76 rfl rfl
theorem lk_1878 : (Cond.instanceMethod ({ cls := "BellHeirsModel", name := "keepAll", desc := "(I)V" } : MethodName)) ∈ aw_all := aw_8 78 rfl rfl
theorem lk_1879 : (Cond.code ({ cls := "BellHeirsModel", name := "keepAll", desc := "(I)V" } : MethodName) prog_14_method_10_code (3 : Nat) (Option.none : Option Jvm.ClassFile.FieldType)) ∈ aw_all := aw_8 79 rfl rfl
theorem lk_1880 : (Cond.methodLink "BellHeirsModel" (467 : Nat) ({ cls := "BellHeirsModel", name := "ringIt", desc := "(II)I" } : MethodName)) ∈ aw_all := aw_8 80 rfl rfl
theorem lk_1882 : (Cond.instanceMethod ({ cls := "BellHeirsModel", name := "ringIt", desc := "(II)I" } : MethodName)) ∈ aw_all := aw_8 82 rfl rfl
theorem lk_1883 : (Cond.code ({ cls := "BellHeirsModel", name := "ringIt", desc := "(II)I" } : MethodName) prog_14_method_85_code (5 : Nat) (Option.some FieldType.int)) ∈ aw_all := aw_8 83 rfl rfl
theorem lk_1884 : (Cond.methodLink "BellHeirsLaw" (102 : Nat) ({ cls := "BellHeirsModel", name := "sell", desc := "(III)I" } : MethodName)) ∈ aw_all := aw_8 84 rfl rfl
theorem lk_1885 : (Cond.instanceMethod ({ cls := "BellHeirsModel", name := "sell", desc := "(III)I" } : MethodName)) ∈ aw_all := aw_8 85 rfl rfl
theorem lk_1886 : (Cond.selects "BellHeirsModel" ({ cls := "BellHeirsModel", name := "sell", desc := "(III)I" } : MethodName) ({ cls := "BellHeirsModel", name := "sell", desc := "(III)I" } : MethodName)) ∈ aw_all := aw_8 86 rfl rfl
theorem lk_1887 : (Cond.code ({ cls := "BellHeirsModel", name := "sell", desc := "(III)I" } : MethodName) prog_14_method_89_code (4 : Nat) (Option.some FieldType.int)) ∈ aw_all := aw_8 87 rfl rfl
theorem lk_1888 : (Cond.methodLink "BellHeirsModel" (473 : Nat) ({ cls := "BellHeirsModel", name := "sellNow", desc := "(III)I" } : MethodName)) ∈ aw_all := aw_8 88 rfl rfl
theorem lk_1890 : (Cond.instanceMethod ({ cls := "BellHeirsModel", name := "sellNow", desc := "(III)I" } : MethodName)) ∈ aw_all := aw_8 90 rfl rfl
theorem lk_1891 : (Cond.code ({ cls := "BellHeirsModel", name := "sellNow", desc := "(III)I" } : MethodName) prog_14_method_88_code (5 : Nat) (Option.some FieldType.int)) ∈ aw_all := aw_8 91 rfl rfl
theorem lk_1892 : (Cond.methodLink "BellHeirsLaw" (106 : Nat) ({ cls := "BellHeirsModel", name := "die", desc := "(I)I" } : MethodName)) ∈ aw_all := aw_8 92 rfl rfl
theorem lk_1893 : (Cond.instanceMethod ({ cls := "BellHeirsModel", name := "die", desc := "(I)I" } : MethodName)) ∈ aw_all := aw_8 93 rfl rfl
theorem lk_1894 : (Cond.selects "BellHeirsModel" ({ cls := "BellHeirsModel", name := "die", desc := "(I)I" } : MethodName) ({ cls := "BellHeirsModel", name := "die", desc := "(I)I" } : MethodName)) ∈ aw_all := aw_8 94 rfl rfl
theorem lk_1895 : (Cond.code ({ cls := "BellHeirsModel", name := "die", desc := "(I)I" } : MethodName) prog_14_method_92_code (2 : Nat) (Option.some FieldType.int)) ∈ aw_all := aw_8 95 rfl rfl
theorem lk_1896 : (Cond.methodLink "BellHeirsModel" (485 : Nat) ({ cls := "BellHeirsModel", name := "dieNow", desc := "(I)I" } : MethodName)) ∈ aw_all := aw_8 96 rfl rfl
theorem lk_1898 : (Cond.instanceMethod ({ cls := "BellHeirsModel", name := "dieNow", desc := "(I)I" } : MethodName)) ∈ aw_all := aw_8 98 rfl rfl
theorem lk_1899 : (Cond.code ({ cls := "BellHeirsModel", name := "dieNow", desc := "(I)I" } : MethodName) prog_14_method_91_code (2 : Nat) (Option.some FieldType.int)) ∈ aw_all := aw_8 99 rfl rfl
theorem lk_1900 : (Cond.methodLink "BellHeirsModel" (482 : Nat) ({ cls := "BellHeirsModel", name := "dieIt", desc := "(I)I" } : MethodName)) ∈ aw_all := aw_8 100 rfl rfl
theorem lk_1902 : (Cond.instanceMethod ({ cls := "BellHeirsModel", name := "dieIt", desc := "(I)I" } : MethodName)) ∈ aw_all := aw_8 102 rfl rfl
theorem lk_1903 : (Cond.code ({ cls := "BellHeirsModel", name := "dieIt", desc := "(I)I" } : MethodName) prog_14_method_90_code (8 : Nat) (Option.some FieldType.int)) ∈ aw_all := aw_8 103 rfl rfl
theorem lk_1904 : (Cond.methodLink "BellHeirsModel" (476 : Nat) ({ cls := "BellHeirsModel", name := "living", desc := "()I" } : MethodName)) ∈ aw_all := aw_8 104 rfl rfl
theorem lk_1906 : (Cond.instanceMethod ({ cls := "BellHeirsModel", name := "living", desc := "()I" } : MethodName)) ∈ aw_all := aw_8 106 rfl rfl
theorem lk_1907 : (Cond.code ({ cls := "BellHeirsModel", name := "living", desc := "()I" } : MethodName) prog_14_method_20_code (3 : Nat) (Option.some FieldType.int)) ∈ aw_all := aw_8 107 rfl rfl
theorem lk_1908 : (Cond.methodLink "BellHeirsModel" (479 : Nat) ({ cls := "BellHeirsModel", name := "ones", desc := "(I)I" } : MethodName)) ∈ aw_all := aw_8 108 rfl rfl
theorem lk_1909 : (Cond.static ({ cls := "BellHeirsModel", name := "ones", desc := "(I)I" } : MethodName)) ∈ aw_all := aw_8 109 rfl rfl
theorem lk_1910 : (Cond.code ({ cls := "BellHeirsModel", name := "ones", desc := "(I)I" } : MethodName) prog_14_method_5_code (3 : Nat) (Option.some FieldType.int)) ∈ aw_all := aw_8 110 rfl rfl
theorem lk_1911 : (Cond.methodLink "BellHeirsLaw" (110 : Nat) ({ cls := "BellHeirsModel", name := "pass", desc := "()I" } : MethodName)) ∈ aw_all := aw_8 111 rfl rfl
theorem lk_1912 : (Cond.instanceMethod ({ cls := "BellHeirsModel", name := "pass", desc := "()I" } : MethodName)) ∈ aw_all := aw_8 112 rfl rfl
theorem lk_1913 : (Cond.selects "BellHeirsModel" ({ cls := "BellHeirsModel", name := "pass", desc := "()I" } : MethodName) ({ cls := "BellHeirsModel", name := "pass", desc := "()I" } : MethodName)) ∈ aw_all := aw_8 113 rfl rfl
theorem lk_1914 : (Cond.code ({ cls := "BellHeirsModel", name := "pass", desc := "()I" } : MethodName) prog_14_method_95_code (1 : Nat) (Option.some FieldType.int)) ∈ aw_all := aw_8 114 rfl rfl
theorem lk_1915 : (Cond.methodLink "BellHeirsModel" (491 : Nat) ({ cls := "BellHeirsModel", name := "passNow", desc := "()I" } : MethodName)) ∈ aw_all := aw_8 115 rfl rfl
theorem lk_1917 : (Cond.instanceMethod ({ cls := "BellHeirsModel", name := "passNow", desc := "()I" } : MethodName)) ∈ aw_all := aw_8 117 rfl rfl
theorem lk_1918 : (Cond.code ({ cls := "BellHeirsModel", name := "passNow", desc := "()I" } : MethodName) prog_14_method_94_code (1 : Nat) (Option.some FieldType.int)) ∈ aw_all := aw_8 118 rfl rfl
theorem lk_1919 : (Cond.methodLink "BellHeirsModel" (488 : Nat) ({ cls := "BellHeirsModel", name := "passIt", desc := "()V" } : MethodName)) ∈ aw_all := aw_8 119 rfl rfl
theorem lk_1921 : (Cond.instanceMethod ({ cls := "BellHeirsModel", name := "passIt", desc := "()V" } : MethodName)) ∈ aw_all := aw_8 121 rfl rfl
theorem lk_1922 : (Cond.code ({ cls := "BellHeirsModel", name := "passIt", desc := "()V" } : MethodName) prog_14_method_93_code (2 : Nat) (Option.none : Option Jvm.ClassFile.FieldType)) ∈ aw_all := aw_8 122 rfl rfl
theorem lk_1923 : (Cond.methodLink "BellHeirsLaw" (118 : Nat) ({ cls := "BellHeirsModel", name := "visits", desc := "(III)I" } : MethodName)) ∈ aw_all := aw_8 123 rfl rfl
theorem lk_1924 : (Cond.instanceMethod ({ cls := "BellHeirsModel", name := "visits", desc := "(III)I" } : MethodName)) ∈ aw_all := aw_8 124 rfl rfl
theorem lk_1925 : (Cond.selects "BellHeirsModel" ({ cls := "BellHeirsModel", name := "visits", desc := "(III)I" } : MethodName) ({ cls := "BellHeirsModel", name := "visits", desc := "(III)I" } : MethodName)) ∈ aw_all := aw_8 125 rfl rfl
theorem lk_1926 : (Cond.code ({ cls := "BellHeirsModel", name := "visits", desc := "(III)I" } : MethodName) prog_14_method_98_code (4 : Nat) (Option.some FieldType.int)) ∈ aw_all := aw_8 126 rfl rfl
theorem lk_1927 : (Cond.methodLink "BellHeirsModel" (503 : Nat) ({ cls := "BellHeirsModel", name := "findVisits", desc := "(II)V" } : MethodName)) ∈ aw_all := aw_8 127 rfl rfl
theorem lk_1929 : (Cond.instanceMethod ({ cls := "BellHeirsModel", name := "findVisits", desc := "(II)V" } : MethodName)) ∈ aw_all := aw_8 129 rfl rfl
theorem lk_1930 : (Cond.code ({ cls := "BellHeirsModel", name := "findVisits", desc := "(II)V" } : MethodName) prog_14_method_97_code (8 : Nat) (Option.none : Option Jvm.ClassFile.FieldType)) ∈ aw_all := aw_8 130 rfl rfl
theorem lk_1931 : (Cond.methodLink "BellHeirsModel" (497 : Nat) ({ cls := "BellHeirsModel", name := "isNew", desc := "(I)Z" } : MethodName)) ∈ aw_all := aw_8 131 rfl rfl
theorem lk_1933 : (Cond.instanceMethod ({ cls := "BellHeirsModel", name := "isNew", desc := "(I)Z" } : MethodName)) ∈ aw_all := aw_8 133 rfl rfl
theorem lk_1934 : (Cond.code ({ cls := "BellHeirsModel", name := "isNew", desc := "(I)Z" } : MethodName) prog_14_method_96_code (4 : Nat) (Option.some FieldType.boolean)) ∈ aw_all := aw_8 134 rfl rfl
theorem lk_1935 : (Cond.methodLink "BellHeirsModel" (500 : Nat) ({ cls := "BellHeirsModel", name := "stepsOf", desc := "(II)I" } : MethodName)) ∈ aw_all := aw_8 135 rfl rfl
theorem lk_1936 : (Cond.static ({ cls := "BellHeirsModel", name := "stepsOf", desc := "(II)I" } : MethodName)) ∈ aw_all := aw_8 136 rfl rfl
theorem lk_1937 : (Cond.code ({ cls := "BellHeirsModel", name := "stepsOf", desc := "(II)I" } : MethodName) prog_14_method_24_code (4 : Nat) (Option.some FieldType.int)) ∈ aw_all := aw_8 137 rfl rfl
theorem lk_1938 : (Cond.methodLink "BellHeirsLaw" (122 : Nat) ({ cls := "BellHeirsModel", name := "exchange", desc := "(I)I" } : MethodName)) ∈ aw_all := aw_8 138 rfl rfl
theorem lk_1939 : (Cond.instanceMethod ({ cls := "BellHeirsModel", name := "exchange", desc := "(I)I" } : MethodName)) ∈ aw_all := aw_8 139 rfl rfl
theorem lk_1940 : (Cond.selects "BellHeirsModel" ({ cls := "BellHeirsModel", name := "exchange", desc := "(I)I" } : MethodName) ({ cls := "BellHeirsModel", name := "exchange", desc := "(I)I" } : MethodName)) ∈ aw_all := aw_8 140 rfl rfl
theorem lk_1941 : (Cond.code ({ cls := "BellHeirsModel", name := "exchange", desc := "(I)I" } : MethodName) prog_14_method_102_code (3 : Nat) (Option.some FieldType.int)) ∈ aw_all := aw_8 141 rfl rfl
theorem lk_1942 : (Cond.methodLink "BellHeirsModel" (512 : Nat) ({ cls := "BellHeirsModel", name := "findExchange", desc := "()I" } : MethodName)) ∈ aw_all := aw_8 142 rfl rfl
theorem lk_1944 : (Cond.instanceMethod ({ cls := "BellHeirsModel", name := "findExchange", desc := "()I" } : MethodName)) ∈ aw_all := aw_8 144 rfl rfl
theorem lk_1945 : (Cond.code ({ cls := "BellHeirsModel", name := "findExchange", desc := "()I" } : MethodName) prog_14_method_101_code (6 : Nat) (Option.some FieldType.int)) ∈ aw_all := aw_8 145 rfl rfl
theorem lk_1946 : (Cond.methodLink "BellHeirsModel" (506 : Nat) ({ cls := "BellHeirsModel", name := "gets", desc := "()I" } : MethodName)) ∈ aw_all := aw_8 146 rfl rfl
theorem lk_1948 : (Cond.instanceMethod ({ cls := "BellHeirsModel", name := "gets", desc := "()I" } : MethodName)) ∈ aw_all := aw_8 148 rfl rfl
theorem lk_1949 : (Cond.code ({ cls := "BellHeirsModel", name := "gets", desc := "()I" } : MethodName) prog_14_method_100_code (5 : Nat) (Option.some FieldType.int)) ∈ aw_all := aw_8 149 rfl rfl
theorem lk_1950 : (Cond.methodLink "BellHeirsModel" (509 : Nat) ({ cls := "BellHeirsModel", name := "canGive", desc := "(I)Z" } : MethodName)) ∈ aw_all := aw_8 150 rfl rfl
theorem lk_1952 : (Cond.instanceMethod ({ cls := "BellHeirsModel", name := "canGive", desc := "(I)Z" } : MethodName)) ∈ aw_all := aw_8 152 rfl rfl
theorem lk_1953 : (Cond.code ({ cls := "BellHeirsModel", name := "canGive", desc := "(I)Z" } : MethodName) prog_14_method_99_code (5 : Nat) (Option.some FieldType.boolean)) ∈ aw_all := aw_8 153 rfl rfl
theorem lk_1954 : (Cond.methodLink "BellHeirsLaw" (126 : Nat) ({ cls := "BellHeirsModel", name := "clue", desc := "(II)I" } : MethodName)) ∈ aw_all := aw_8 154 rfl rfl
theorem lk_1955 : (Cond.instanceMethod ({ cls := "BellHeirsModel", name := "clue", desc := "(II)I" } : MethodName)) ∈ aw_all := aw_8 155 rfl rfl
theorem lk_1956 : (Cond.selects "BellHeirsModel" ({ cls := "BellHeirsModel", name := "clue", desc := "(II)I" } : MethodName) ({ cls := "BellHeirsModel", name := "clue", desc := "(II)I" } : MethodName)) ∈ aw_all := aw_8 156 rfl rfl
theorem lk_1957 : (Cond.code ({ cls := "BellHeirsModel", name := "clue", desc := "(II)I" } : MethodName) prog_14_method_103_code (4 : Nat) (Option.some FieldType.int)) ∈ aw_all := aw_8 157 rfl rfl
theorem lk_1958 : (Cond.methodLink "BellHeirsLaw" (130 : Nat) ({ cls := "BellHeirsModel", name := "forget", desc := "()I" } : MethodName)) ∈ aw_all := aw_8 158 rfl rfl
theorem lk_1959 : (Cond.instanceMethod ({ cls := "BellHeirsModel", name := "forget", desc := "()I" } : MethodName)) ∈ aw_all := aw_8 159 rfl rfl
theorem lk_1960 : (Cond.selects "BellHeirsModel" ({ cls := "BellHeirsModel", name := "forget", desc := "()I" } : MethodName) ({ cls := "BellHeirsModel", name := "forget", desc := "()I" } : MethodName)) ∈ aw_all := aw_8 160 rfl rfl
theorem lk_1961 : (Cond.code ({ cls := "BellHeirsModel", name := "forget", desc := "()I" } : MethodName) prog_14_method_104_code (2 : Nat) (Option.some FieldType.int)) ∈ aw_all := aw_8 161 rfl rfl
theorem lk_1962 : (Cond.methodLink "BellHeirsLaw" (134 : Nat) ({ cls := "BellHeirsModel", name := "who", desc := "()I" } : MethodName)) ∈ aw_all := aw_8 162 rfl rfl
theorem lk_1963 : (Cond.instanceMethod ({ cls := "BellHeirsModel", name := "who", desc := "()I" } : MethodName)) ∈ aw_all := aw_8 163 rfl rfl
theorem lk_1964 : (Cond.selects "BellHeirsModel" ({ cls := "BellHeirsModel", name := "who", desc := "()I" } : MethodName) ({ cls := "BellHeirsModel", name := "who", desc := "()I" } : MethodName)) ∈ aw_all := aw_8 164 rfl rfl
theorem lk_1965 : (Cond.code ({ cls := "BellHeirsModel", name := "who", desc := "()I" } : MethodName) prog_14_method_108_code (1 : Nat) (Option.some FieldType.int)) ∈ aw_all := aw_8 165 rfl rfl
theorem lk_1966 : (Cond.methodLink "BellHeirsModel" (521 : Nat) ({ cls := "BellHeirsModel", name := "whoCan", desc := "()I" } : MethodName)) ∈ aw_all := aw_8 166 rfl rfl
theorem lk_1968 : (Cond.instanceMethod ({ cls := "BellHeirsModel", name := "whoCan", desc := "()I" } : MethodName)) ∈ aw_all := aw_8 168 rfl rfl
theorem lk_1969 : (Cond.code ({ cls := "BellHeirsModel", name := "whoCan", desc := "()I" } : MethodName) prog_14_method_107_code (3 : Nat) (Option.some FieldType.int)) ∈ aw_all := aw_8 169 rfl rfl
theorem lk_1970 : (Cond.methodLink "BellHeirsModel" (518 : Nat) ({ cls := "BellHeirsModel", name := "canHaveRung", desc := "(I)Z" } : MethodName)) ∈ aw_all := aw_8 170 rfl rfl
theorem lk_1972 : (Cond.instanceMethod ({ cls := "BellHeirsModel", name := "canHaveRung", desc := "(I)Z" } : MethodName)) ∈ aw_all := aw_8 172 rfl rfl
theorem lk_1973 : (Cond.code ({ cls := "BellHeirsModel", name := "canHaveRung", desc := "(I)Z" } : MethodName) prog_14_method_106_code (6 : Nat) (Option.some FieldType.boolean)) ∈ aw_all := aw_8 173 rfl rfl
theorem lk_1974 : (Cond.methodLink "BellHeirsModel" (515 : Nat) ({ cls := "BellHeirsModel", name := "timesTold", desc := "(I)I" } : MethodName)) ∈ aw_all := aw_8 174 rfl rfl
theorem lk_1976 : (Cond.instanceMethod ({ cls := "BellHeirsModel", name := "timesTold", desc := "(I)I" } : MethodName)) ∈ aw_all := aw_8 176 rfl rfl
theorem lk_1977 : (Cond.code ({ cls := "BellHeirsModel", name := "timesTold", desc := "(I)I" } : MethodName) prog_14_method_105_code (4 : Nat) (Option.some FieldType.int)) ∈ aw_all := aw_8 177 rfl rfl
theorem lk_1978 : (Cond.methodLink "BellHeirsLaw" (138 : Nat) ({ cls := "BellHeirsModel", name := "look", desc := "(I)I" } : MethodName)) ∈ aw_all := aw_8 178 rfl rfl
theorem lk_1979 : (Cond.instanceMethod ({ cls := "BellHeirsModel", name := "look", desc := "(I)I" } : MethodName)) ∈ aw_all := aw_8 179 rfl rfl
theorem lk_1980 : (Cond.selects "BellHeirsModel" ({ cls := "BellHeirsModel", name := "look", desc := "(I)I" } : MethodName) ({ cls := "BellHeirsModel", name := "look", desc := "(I)I" } : MethodName)) ∈ aw_all := aw_8 180 rfl rfl
theorem lk_1981 : (Cond.code ({ cls := "BellHeirsModel", name := "look", desc := "(I)I" } : MethodName) prog_14_method_109_code (8 : Nat) (Option.some FieldType.int)) ∈ aw_all := aw_8 181 rfl rfl
theorem lk_1982 : (Cond.constant "BellHeirsModel" (524 : Nat) (100000000 : Int32)) ∈ aw_all := aw_8 182 rfl rfl
theorem lk_1983 : (Cond.methodLink "BellHeirsLaw" (142 : Nat) ({ cls := "BellHeirsModel", name := "amend", desc := "(II)I" } : MethodName)) ∈ aw_all := aw_8 183 rfl rfl
theorem lk_1984 : (Cond.instanceMethod ({ cls := "BellHeirsModel", name := "amend", desc := "(II)I" } : MethodName)) ∈ aw_all := aw_8 184 rfl rfl
theorem lk_1985 : (Cond.selects "BellHeirsModel" ({ cls := "BellHeirsModel", name := "amend", desc := "(II)I" } : MethodName) ({ cls := "BellHeirsModel", name := "amend", desc := "(II)I" } : MethodName)) ∈ aw_all := aw_8 185 rfl rfl
theorem lk_1986 : (Cond.code ({ cls := "BellHeirsModel", name := "amend", desc := "(II)I" } : MethodName) prog_14_method_110_code (8 : Nat) (Option.some FieldType.int)) ∈ aw_all := aw_8 186 rfl rfl
theorem lk_1987 : (Cond.methodLink "BellHeirsLaw" (146 : Nat) ({ cls := "BellHeirsModel", name := "given", desc := "(III)I" } : MethodName)) ∈ aw_all := aw_8 187 rfl rfl
theorem lk_1988 : (Cond.instanceMethod ({ cls := "BellHeirsModel", name := "given", desc := "(III)I" } : MethodName)) ∈ aw_all := aw_8 188 rfl rfl
theorem lk_1989 : (Cond.selects "BellHeirsModel" ({ cls := "BellHeirsModel", name := "given", desc := "(III)I" } : MethodName) ({ cls := "BellHeirsModel", name := "given", desc := "(III)I" } : MethodName)) ∈ aw_all := aw_8 189 rfl rfl
theorem lk_1990 : (Cond.code ({ cls := "BellHeirsModel", name := "given", desc := "(III)I" } : MethodName) prog_14_method_111_code (7 : Nat) (Option.some FieldType.int)) ∈ aw_all := aw_8 190 rfl rfl
theorem lk_1991 : (Cond.methodLink "BellHeirsLaw" (150 : Nat) ({ cls := "BellHeirsModel", name := "keep", desc := "(IIII)I" } : MethodName)) ∈ aw_all := aw_8 191 rfl rfl
theorem lk_1992 : (Cond.instanceMethod ({ cls := "BellHeirsModel", name := "keep", desc := "(IIII)I" } : MethodName)) ∈ aw_all := aw_8 192 rfl rfl
theorem lk_1993 : (Cond.selects "BellHeirsModel" ({ cls := "BellHeirsModel", name := "keep", desc := "(IIII)I" } : MethodName) ({ cls := "BellHeirsModel", name := "keep", desc := "(IIII)I" } : MethodName)) ∈ aw_all := aw_8 193 rfl rfl
theorem lk_1994 : (Cond.code ({ cls := "BellHeirsModel", name := "keep", desc := "(IIII)I" } : MethodName) prog_14_method_114_code (10 : Nat) (Option.some FieldType.int)) ∈ aw_all := aw_8 194 rfl rfl
theorem lk_1995 : (Cond.constantLong "BellHeirsModel" (528 : Nat) (8 : Int64)) ∈ aw_all := aw_8 195 rfl rfl
theorem lk_1996 : (Cond.methodLink "BellHeirsModel" (530 : Nat) ({ cls := "BellHeirsModel", name := "keptBy", desc := "(IIII)I" } : MethodName)) ∈ aw_all := aw_8 196 rfl rfl
theorem lk_1998 : (Cond.instanceMethod ({ cls := "BellHeirsModel", name := "keptBy", desc := "(IIII)I" } : MethodName)) ∈ aw_all := aw_8 198 rfl rfl
theorem lk_1999 : (Cond.code ({ cls := "BellHeirsModel", name := "keptBy", desc := "(IIII)I" } : MethodName) prog_14_method_113_code (5 : Nat) (Option.some FieldType.int)) ∈ aw_all := aw_8 199 rfl rfl
theorem lk_2000 : (Cond.methodLink "BellHeirsModel" (525 : Nat) ({ cls := "BellHeirsModel", name := "worthOfAll", desc := "(III)I" } : MethodName)) ∈ aw_all := aw_8 200 rfl rfl
theorem lk_2002 : (Cond.instanceMethod ({ cls := "BellHeirsModel", name := "worthOfAll", desc := "(III)I" } : MethodName)) ∈ aw_all := aw_8 202 rfl rfl
theorem lk_2003 : (Cond.code ({ cls := "BellHeirsModel", name := "worthOfAll", desc := "(III)I" } : MethodName) prog_14_method_112_code (7 : Nat) (Option.some FieldType.int)) ∈ aw_all := aw_8 203 rfl rfl
theorem lk_2004 : (Cond.methodLink "BellHeirsLaw" (154 : Nat) ({ cls := "BellHeirsModel", name := "chain", desc := "(IIII)I" } : MethodName)) ∈ aw_all := aw_8 204 rfl rfl
theorem lk_2005 : (Cond.instanceMethod ({ cls := "BellHeirsModel", name := "chain", desc := "(IIII)I" } : MethodName)) ∈ aw_all := aw_8 205 rfl rfl
theorem lk_2006 : (Cond.selects "BellHeirsModel" ({ cls := "BellHeirsModel", name := "chain", desc := "(IIII)I" } : MethodName) ({ cls := "BellHeirsModel", name := "chain", desc := "(IIII)I" } : MethodName)) ∈ aw_all := aw_8 206 rfl rfl
theorem lk_2007 : (Cond.code ({ cls := "BellHeirsModel", name := "chain", desc := "(IIII)I" } : MethodName) prog_14_method_116_code (10 : Nat) (Option.some FieldType.int)) ∈ aw_all := aw_8 207 rfl rfl
theorem lk_2008 : (Cond.methodLink "BellHeirsModel" (534 : Nat) ({ cls := "BellHeirsModel", name := "chainBy", desc := "(III)I" } : MethodName)) ∈ aw_all := aw_8 208 rfl rfl
theorem lk_2010 : (Cond.instanceMethod ({ cls := "BellHeirsModel", name := "chainBy", desc := "(III)I" } : MethodName)) ∈ aw_all := aw_8 210 rfl rfl
theorem lk_2011 : (Cond.code ({ cls := "BellHeirsModel", name := "chainBy", desc := "(III)I" } : MethodName) prog_14_method_115_code (4 : Nat) (Option.some FieldType.int)) ∈ aw_all := aw_8 211 rfl rfl
theorem lk_2012 : (Cond.methodLink "BellHeirsLaw" (159 : Nat) ({ cls := "BellHeirsModel", name := "likely", desc := "(II)J" } : MethodName)) ∈ aw_all := aw_8 212 rfl rfl
theorem lk_2013 : (Cond.instanceMethod ({ cls := "BellHeirsModel", name := "likely", desc := "(II)J" } : MethodName)) ∈ aw_all := aw_8 213 rfl rfl
theorem lk_2014 : (Cond.selects "BellHeirsModel" ({ cls := "BellHeirsModel", name := "likely", desc := "(II)J" } : MethodName) ({ cls := "BellHeirsModel", name := "likely", desc := "(II)J" } : MethodName)) ∈ aw_all := aw_8 214 rfl rfl
theorem lk_2015 : (Cond.code ({ cls := "BellHeirsModel", name := "likely", desc := "(II)J" } : MethodName) prog_14_method_117_code (8 : Nat) (Option.some FieldType.long)) ∈ aw_all := aw_8 215 rfl rfl
theorem lk_2016 : (Cond.constantLong "BellHeirsModel" (537 : Nat) (60 : Int64)) ∈ aw_all := aw_8 216 rfl rfl
theorem lk_2017 : (Cond.constantLong "BellHeirsModel" (539 : Nat) (1000000000000 : Int64)) ∈ aw_all := aw_8 217 rfl rfl
theorem lk_2018 : (Cond.methodLink "BellHeirsLaw" (82 : Nat) ({ cls := "BellHeirsModel", name := "orders", desc := "()I" } : MethodName)) ∈ aw_all := aw_8 218 rfl rfl
theorem lk_2019 : (Cond.instanceMethod ({ cls := "BellHeirsModel", name := "orders", desc := "()I" } : MethodName)) ∈ aw_all := aw_8 219 rfl rfl
theorem lk_2020 : (Cond.selects "BellHeirsModel" ({ cls := "BellHeirsModel", name := "orders", desc := "()I" } : MethodName) ({ cls := "BellHeirsModel", name := "orders", desc := "()I" } : MethodName)) ∈ aw_all := aw_8 220 rfl rfl
theorem lk_2021 : (Cond.code ({ cls := "BellHeirsModel", name := "orders", desc := "()I" } : MethodName) prog_14_method_124_code (4 : Nat) (Option.some FieldType.int)) ∈ aw_all := aw_8 221 rfl rfl
theorem lk_2022 : (Cond.methodLink "BellHeirsModel" (569 : Nat) ({ cls := "BellHeirsModel", name := "readOrder", desc := "()V" } : MethodName)) ∈ aw_all := aw_8 222 rfl rfl
theorem lk_2024 : (Cond.instanceMethod ({ cls := "BellHeirsModel", name := "readOrder", desc := "()V" } : MethodName)) ∈ aw_all := aw_8 224 rfl rfl
theorem lk_2025 : (Cond.code ({ cls := "BellHeirsModel", name := "readOrder", desc := "()V" } : MethodName) prog_14_method_120_code (4 : Nat) (Option.none : Option Jvm.ClassFile.FieldType)) ∈ aw_all := aw_8 225 rfl rfl
theorem lk_2026 : (Cond.methodLink "BellHeirsModel" (541 : Nat) ({ cls := "BellHeirsModel", name := "readSum", desc := "(I)V" } : MethodName)) ∈ aw_all := aw_8 226 rfl rfl
theorem lk_2028 : (Cond.instanceMethod ({ cls := "BellHeirsModel", name := "readSum", desc := "(I)V" } : MethodName)) ∈ aw_all := aw_8 228 rfl rfl
theorem lk_2029 : (Cond.code ({ cls := "BellHeirsModel", name := "readSum", desc := "(I)V" } : MethodName) prog_14_method_118_code (2 : Nat) (Option.none : Option Jvm.ClassFile.FieldType)) ∈ aw_all := aw_8 229 rfl rfl
theorem lk_2030 : (Cond.constantLong "BellHeirsModel" (544 : Nat) (52 : Int64)) ∈ aw_all := aw_8 230 rfl rfl
theorem lk_2031 : (Cond.methodLink "BellHeirsModel" (546 : Nat) ({ cls := "BellHeirsModel", name := "behind", desc := "(JI)V" } : MethodName)) ∈ aw_all := aw_8 231 rfl rfl
theorem lk_2033 : (Cond.instanceMethod ({ cls := "BellHeirsModel", name := "behind", desc := "(JI)V" } : MethodName)) ∈ aw_all := aw_8 233 rfl rfl
theorem lk_2034 : (Cond.code ({ cls := "BellHeirsModel", name := "behind", desc := "(JI)V" } : MethodName) prog_14_method_119_code (4 : Nat) (Option.none : Option Jvm.ClassFile.FieldType)) ∈ aw_all := aw_8 234 rfl rfl
theorem lk_2035 : (Cond.constantLong "BellHeirsModel" (550 : Nat) (486 : Int64)) ∈ aw_all := aw_8 235 rfl rfl
theorem lk_2036 : (Cond.constantLong "BellHeirsModel" (552 : Nat) (21279923 : Int64)) ∈ aw_all := aw_8 236 rfl rfl
theorem lk_2037 : (Cond.methodLink "BellHeirsModel" (572 : Nat) ({ cls := "BellHeirsModel", name := "run", desc := "(I)I" } : MethodName)) ∈ aw_all := aw_8 237 rfl rfl
theorem lk_2039 : (Cond.instanceMethod ({ cls := "BellHeirsModel", name := "run", desc := "(I)I" } : MethodName)) ∈ aw_all := aw_8 239 rfl rfl
theorem lk_2040 : (Cond.code ({ cls := "BellHeirsModel", name := "run", desc := "(I)I" } : MethodName) prog_14_method_123_code (6 : Nat) (Option.some FieldType.int)) ∈ aw_all := aw_9 0 rfl rfl
theorem lk_2041 : (Cond.methodLink "BellHeirsModel" (563 : Nat) ({ cls := "BellHeirsModel", name := "sumOf", desc := "(I)I" } : MethodName)) ∈ aw_all := aw_9 1 rfl rfl
theorem lk_2043 : (Cond.instanceMethod ({ cls := "BellHeirsModel", name := "sumOf", desc := "(I)I" } : MethodName)) ∈ aw_all := aw_9 3 rfl rfl
theorem lk_2044 : (Cond.code ({ cls := "BellHeirsModel", name := "sumOf", desc := "(I)I" } : MethodName) prog_14_method_121_code (2 : Nat) (Option.some FieldType.int)) ∈ aw_all := aw_9 4 rfl rfl
theorem lk_2045 : (Cond.methodLink "BellHeirsModel" (566 : Nat) ({ cls := "BellHeirsModel", name := "act", desc := "(IIII)I" } : MethodName)) ∈ aw_all := aw_9 5 rfl rfl
theorem lk_2047 : (Cond.instanceMethod ({ cls := "BellHeirsModel", name := "act", desc := "(IIII)I" } : MethodName)) ∈ aw_all := aw_9 7 rfl rfl
theorem lk_2048 : (Cond.code ({ cls := "BellHeirsModel", name := "act", desc := "(IIII)I" } : MethodName) prog_14_method_122_code (5 : Nat) (Option.some FieldType.int)) ∈ aw_all := aw_9 8 rfl rfl
theorem lk_2049 : (Cond.methodLink "BellHeirsModel" (575 : Nat) ({ cls := "BellHeirsModel", name := "giveBack", desc := "(I)V" } : MethodName)) ∈ aw_all := aw_9 9 rfl rfl
theorem lk_2051 : (Cond.instanceMethod ({ cls := "BellHeirsModel", name := "giveBack", desc := "(I)V" } : MethodName)) ∈ aw_all := aw_9 11 rfl rfl
theorem lk_2052 : (Cond.code ({ cls := "BellHeirsModel", name := "giveBack", desc := "(I)V" } : MethodName) prog_14_method_125_code (3 : Nat) (Option.none : Option Jvm.ClassFile.FieldType)) ∈ aw_all := aw_9 12 rfl rfl
theorem lk_2053 : (Cond.methodLink "BellHeirsLaw" (90 : Nat) ({ cls := "BellHeirsModel", name := "stopped", desc := "()I" } : MethodName)) ∈ aw_all := aw_9 13 rfl rfl
theorem lk_2054 : (Cond.instanceMethod ({ cls := "BellHeirsModel", name := "stopped", desc := "()I" } : MethodName)) ∈ aw_all := aw_9 14 rfl rfl
theorem lk_2055 : (Cond.selects "BellHeirsModel" ({ cls := "BellHeirsModel", name := "stopped", desc := "()I" } : MethodName) ({ cls := "BellHeirsModel", name := "stopped", desc := "()I" } : MethodName)) ∈ aw_all := aw_9 15 rfl rfl
theorem lk_2056 : (Cond.code ({ cls := "BellHeirsModel", name := "stopped", desc := "()I" } : MethodName) prog_14_method_126_code (1 : Nat) (Option.some FieldType.int)) ∈ aw_all := aw_9 16 rfl rfl
theorem lk_2057 : (Cond.methodLink "BellHeirsLaw" (163 : Nat) ({ cls := "BellHeirsModel", name := "generations", desc := "(II)I" } : MethodName)) ∈ aw_all := aw_9 17 rfl rfl
theorem lk_2058 : (Cond.instanceMethod ({ cls := "BellHeirsModel", name := "generations", desc := "(II)I" } : MethodName)) ∈ aw_all := aw_9 18 rfl rfl
theorem lk_2059 : (Cond.selects "BellHeirsModel" ({ cls := "BellHeirsModel", name := "generations", desc := "(II)I" } : MethodName) ({ cls := "BellHeirsModel", name := "generations", desc := "(II)I" } : MethodName)) ∈ aw_all := aw_9 19 rfl rfl
theorem lk_2060 : (Cond.code ({ cls := "BellHeirsModel", name := "generations", desc := "(II)I" } : MethodName) prog_14_method_128_code (8 : Nat) (Option.some FieldType.int)) ∈ aw_all := aw_9 20 rfl rfl
theorem lk_2061 : (Cond.methodLink "BellHeirsModel" (587 : Nat) ({ cls := "BellHeirsModel", name := "draw", desc := "(I)I" } : MethodName)) ∈ aw_all := aw_9 21 rfl rfl
theorem lk_2063 : (Cond.instanceMethod ({ cls := "BellHeirsModel", name := "draw", desc := "(I)I" } : MethodName)) ∈ aw_all := aw_9 23 rfl rfl
theorem lk_2064 : (Cond.code ({ cls := "BellHeirsModel", name := "draw", desc := "(I)I" } : MethodName) prog_14_method_127_code (2 : Nat) (Option.some FieldType.int)) ∈ aw_all := aw_9 24 rfl rfl
theorem lk_2065 : (Cond.constantLong "BellHeirsModel" (581 : Nat) (1103 : Int64)) ∈ aw_all := aw_9 25 rfl rfl
theorem lk_2066 : (Cond.constantLong "BellHeirsModel" (583 : Nat) (12345 : Int64)) ∈ aw_all := aw_9 26 rfl rfl
theorem lk_2067 : (Cond.constantLong "BellHeirsModel" (585 : Nat) (1000003 : Int64)) ∈ aw_all := aw_9 27 rfl rfl
theorem lk_2068 : (Cond.methodLink "BellHeirsLaw" (167 : Nat) ({ cls := "BellHeirsModel", name := "drawn", desc := "(II)I" } : MethodName)) ∈ aw_all := aw_9 28 rfl rfl
theorem lk_2069 : (Cond.instanceMethod ({ cls := "BellHeirsModel", name := "drawn", desc := "(II)I" } : MethodName)) ∈ aw_all := aw_9 29 rfl rfl
theorem lk_2070 : (Cond.selects "BellHeirsModel" ({ cls := "BellHeirsModel", name := "drawn", desc := "(II)I" } : MethodName) ({ cls := "BellHeirsModel", name := "drawn", desc := "(II)I" } : MethodName)) ∈ aw_all := aw_9 30 rfl rfl
theorem lk_2071 : (Cond.code ({ cls := "BellHeirsModel", name := "drawn", desc := "(II)I" } : MethodName) prog_14_method_129_code (3 : Nat) (Option.some FieldType.int)) ∈ aw_all := aw_9 31 rfl rfl
theorem lk_2072 : (Cond.methodLink "BellHeirsLaw" (179 : Nat) ({ cls := "BellHeirsModel", name := "count", desc := "(I)I" } : MethodName)) ∈ aw_all := aw_9 32 rfl rfl
theorem lk_2073 : (Cond.instanceMethod ({ cls := "BellHeirsModel", name := "count", desc := "(I)I" } : MethodName)) ∈ aw_all := aw_9 33 rfl rfl
theorem lk_2074 : (Cond.selects "BellHeirsModel" ({ cls := "BellHeirsModel", name := "count", desc := "(I)I" } : MethodName) ({ cls := "BellHeirsModel", name := "count", desc := "(I)I" } : MethodName)) ∈ aw_all := aw_9 34 rfl rfl
theorem lk_2075 : (Cond.code ({ cls := "BellHeirsModel", name := "count", desc := "(I)I" } : MethodName) prog_14_method_130_code (2 : Nat) (Option.some FieldType.int)) ∈ aw_all := aw_9 35 rfl rfl
theorem lk_2076 : (Cond.constantLong "BellHeirsModel" (590 : Nat) (13 : Int64)) ∈ aw_all := aw_9 36 rfl rfl
theorem lk_2077 : (Cond.constantLong "BellHeirsModel" (592 : Nat) (15 : Int64)) ∈ aw_all := aw_9 37 rfl rfl
theorem lk_2078 : (Cond.methodLink "BellHeirsLaw" (183 : Nat) ({ cls := "BellHeirsModel", name := "status", desc := "()I" } : MethodName)) ∈ aw_all := aw_9 38 rfl rfl
theorem lk_2079 : (Cond.instanceMethod ({ cls := "BellHeirsModel", name := "status", desc := "()I" } : MethodName)) ∈ aw_all := aw_9 39 rfl rfl
theorem lk_2080 : (Cond.selects "BellHeirsModel" ({ cls := "BellHeirsModel", name := "status", desc := "()I" } : MethodName) ({ cls := "BellHeirsModel", name := "status", desc := "()I" } : MethodName)) ∈ aw_all := aw_9 40 rfl rfl
theorem lk_2081 : (Cond.code ({ cls := "BellHeirsModel", name := "status", desc := "()I" } : MethodName) prog_14_method_131_code (1 : Nat) (Option.some FieldType.int)) ∈ aw_all := aw_9 41 rfl rfl
theorem lk_2082 : (Cond.fieldLink "java/lang/String" (9 : Nat) "java/lang/String" "value" "[B") ∈ aw_all := aw_9 42 rfl rfl
theorem lk_2083 : (Cond.fieldLink "java/lang/String" (15 : Nat) "java/lang/String" "coder" "B") ∈ aw_all := aw_9 43 rfl rfl
