/-- selects of the private methods -/
theorem ws_0 : Cond.selects "FlowGates$Teller" ⟨"FlowGates$Teller", "advance", "()V"⟩ ⟨"FlowGates$Teller", "advance", "()V"⟩ ∈ lw_tbl := List.mem_of_getElem? (i := 0) (by decide +kernel)
theorem ws_1 : Cond.selects "FlowGates$Teller" ⟨"FlowGates$Teller", "kindAt", "(I)I"⟩ ⟨"FlowGates$Teller", "kindAt", "(I)I"⟩ ∈ lw_tbl := List.mem_of_getElem? (i := 1) (by decide +kernel)
theorem ws_2 : Cond.selects "FlowGates$Teller" ⟨"FlowGates$Teller", "takesVerb", "()Z"⟩ ⟨"FlowGates$Teller", "takesVerb", "()Z"⟩ ∈ lw_tbl := List.mem_of_getElem? (i := 2) (by decide +kernel)
theorem ws_3 : Cond.selects "FlowGates$Teller" ⟨"FlowGates$Teller", "takes", "(Ljava/lang/String;)Z"⟩ ⟨"FlowGates$Teller", "takes", "(Ljava/lang/String;)Z"⟩ ∈ lw_tbl := List.mem_of_getElem? (i := 3) (by decide +kernel)
theorem ws_4 : Cond.selects "FlowGates$Teller" ⟨"FlowGates$Teller", "fail", "(II)V"⟩ ⟨"FlowGates$Teller", "fail", "(II)V"⟩ ∈ lw_tbl := List.mem_of_getElem? (i := 4) (by decide +kernel)
theorem ws_5 : Cond.selects "FlowGates$Teller" ⟨"FlowGates$Teller", "readNext", "(LFlowGates$World;C)I"⟩ ⟨"FlowGates$Teller", "readNext", "(LFlowGates$World;C)I"⟩ ∈ lw_tbl := List.mem_of_getElem? (i := 5) (by decide +kernel)
theorem ws_6 : Cond.selects "FlowGates$Teller" ⟨"FlowGates$Teller", "readHow", "()I"⟩ ⟨"FlowGates$Teller", "readHow", "()I"⟩ ∈ lw_tbl := List.mem_of_getElem? (i := 6) (by decide +kernel)
theorem ws_7 : Cond.selects "FlowGates$Teller" ⟨"FlowGates$Teller", "numberHere", "()I"⟩ ⟨"FlowGates$Teller", "numberHere", "()I"⟩ ∈ lw_tbl := List.mem_of_getElem? (i := 7) (by decide +kernel)
theorem ws_8 : Cond.selects "FlowGates$World" ⟨"FlowGates$World", "forgetAged", "()V"⟩ ⟨"FlowGates$World", "forgetAged", "()V"⟩ ∈ lw_tbl := List.mem_of_getElem? (i := 8) (by decide +kernel)
theorem ws_9 : Cond.selects "FlowGates$Memory" ⟨"FlowGates$Memory", "move", "(II)V"⟩ ⟨"FlowGates$Memory", "move", "(II)V"⟩ ∈ lw_tbl := List.mem_of_getElem? (i := 9) (by decide +kernel)
theorem ws_10 : Cond.selects "FlowGates$Memory" ⟨"FlowGates$Memory", "eldest", "()I"⟩ ⟨"FlowGates$Memory", "eldest", "()I"⟩ ∈ lw_tbl := List.mem_of_getElem? (i := 10) (by decide +kernel)
theorem ws_11 : Cond.selects "FlowGates$Tables" ⟨"FlowGates$Tables", "start", "([ILFlowGates$World;II)I"⟩ ⟨"FlowGates$Tables", "start", "([ILFlowGates$World;II)I"⟩ ∈ lw_tbl := List.mem_of_getElem? (i := 11) (by decide +kernel)
theorem ws_12 : Cond.selects "FlowGates$Tables" ⟨"FlowGates$Tables", "take", "([III)V"⟩ ⟨"FlowGates$Tables", "take", "([III)V"⟩ ∈ lw_tbl := List.mem_of_getElem? (i := 12) (by decide +kernel)
theorem ws_13 : Cond.selects "FlowGates$Memory" ⟨"FlowGates$Memory", "openAt", "(I)I"⟩ ⟨"FlowGates$Memory", "openAt", "(I)I"⟩ ∈ lw_tbl := List.mem_of_getElem? (i := 13) (by decide +kernel)
theorem ws_14 : Cond.selects "FlowGates" ⟨"FlowGates", "makeTable", "([II)V"⟩ ⟨"FlowGates", "makeTable", "([II)V"⟩ ∈ lw_tbl := List.mem_of_getElem? (i := 14) (by decide +kernel)
theorem ws_15 : Cond.selects "FlowGates" ⟨"FlowGates", "unevenAt", "(II)I"⟩ ⟨"FlowGates", "unevenAt", "(II)I"⟩ ∈ lw_tbl := List.mem_of_getElem? (i := 15) (by decide +kernel)
theorem ws_16 : Cond.selects "FlowGates" ⟨"FlowGates", "changes", "([I[IIZ)I"⟩ ⟨"FlowGates", "changes", "([I[IIZ)I"⟩ ∈ lw_tbl := List.mem_of_getElem? (i := 16) (by decide +kernel)
theorem ws_17 : Cond.selects "java/lang/Throwable" ⟨"java/lang/Throwable", "fillInStackTrace", "(I)Ljava/lang/Throwable;"⟩ ⟨"java/lang/Throwable", "fillInStackTrace", "(I)Ljava/lang/Throwable;"⟩ ∈ lw_tbl := List.mem_of_getElem? (i := 17) (by decide +kernel)
theorem ws_18 : Cond.selects "FlowGatesModel" ⟨"FlowGatesModel", "sizes", "(I)V"⟩ ⟨"FlowGatesModel", "sizes", "(I)V"⟩ ∈ lw_tbl := List.mem_of_getElem? (i := 18) (by decide +kernel)
theorem ws_19 : Cond.selects "FlowGatesModel" ⟨"FlowGatesModel", "isKey", "(I)Z"⟩ ⟨"FlowGatesModel", "isKey", "(I)Z"⟩ ∈ lw_tbl := List.mem_of_getElem? (i := 19) (by decide +kernel)
theorem ws_20 : Cond.selects "FlowGatesModel" ⟨"FlowGatesModel", "backs", "(II)I"⟩ ⟨"FlowGatesModel", "backs", "(II)I"⟩ ∈ lw_tbl := List.mem_of_getElem? (i := 20) (by decide +kernel)
theorem ws_21 : Cond.selects "FlowGatesModel" ⟨"FlowGatesModel", "isBack", "(I)Z"⟩ ⟨"FlowGatesModel", "isBack", "(I)Z"⟩ ∈ lw_tbl := List.mem_of_getElem? (i := 21) (by decide +kernel)
theorem ws_22 : Cond.selects "FlowGatesModel" ⟨"FlowGatesModel", "seesSo", "(III)I"⟩ ⟨"FlowGatesModel", "seesSo", "(III)I"⟩ ∈ lw_tbl := List.mem_of_getElem? (i := 22) (by decide +kernel)
theorem ws_23 : Cond.selects "FlowGatesModel" ⟨"FlowGatesModel", "stateOf", "(II)I"⟩ ⟨"FlowGatesModel", "stateOf", "(II)I"⟩ ∈ lw_tbl := List.mem_of_getElem? (i := 23) (by decide +kernel)
theorem ws_24 : Cond.selects "FlowGatesModel" ⟨"FlowGatesModel", "holds", "(II)V"⟩ ⟨"FlowGatesModel", "holds", "(II)V"⟩ ∈ lw_tbl := List.mem_of_getElem? (i := 24) (by decide +kernel)
theorem ws_25 : Cond.selects "FlowGatesModel" ⟨"FlowGatesModel", "ages", "()V"⟩ ⟨"FlowGatesModel", "ages", "()V"⟩ ∈ lw_tbl := List.mem_of_getElem? (i := 25) (by decide +kernel)
theorem ws_26 : Cond.selects "FlowGatesModel" ⟨"FlowGatesModel", "whenOf", "(II)I"⟩ ⟨"FlowGatesModel", "whenOf", "(II)I"⟩ ∈ lw_tbl := List.mem_of_getElem? (i := 26) (by decide +kernel)
theorem ws_27 : Cond.selects "FlowGatesModel" ⟨"FlowGatesModel", "forgets", "(II)V"⟩ ⟨"FlowGatesModel", "forgets", "(II)V"⟩ ∈ lw_tbl := List.mem_of_getElem? (i := 27) (by decide +kernel)
theorem ws_28 : Cond.selects "FlowGatesModel" ⟨"FlowGatesModel", "flowOf", "(II)I"⟩ ⟨"FlowGatesModel", "flowOf", "(II)I"⟩ ∈ lw_tbl := List.mem_of_getElem? (i := 28) (by decide +kernel)
theorem ws_29 : Cond.selects "FlowGatesModel" ⟨"FlowGatesModel", "toOf", "(II)I"⟩ ⟨"FlowGatesModel", "toOf", "(II)I"⟩ ∈ lw_tbl := List.mem_of_getElem? (i := 29) (by decide +kernel)
theorem ws_30 : Cond.selects "FlowGatesModel" ⟨"FlowGatesModel", "fits", "()V"⟩ ⟨"FlowGatesModel", "fits", "()V"⟩ ∈ lw_tbl := List.mem_of_getElem? (i := 30) (by decide +kernel)
theorem ws_31 : Cond.selects "FlowGatesModel" ⟨"FlowGatesModel", "eldest", "(I)I"⟩ ⟨"FlowGatesModel", "eldest", "(I)I"⟩ ∈ lw_tbl := List.mem_of_getElem? (i := 31) (by decide +kernel)
theorem ws_32 : Cond.selects "FlowGatesModel" ⟨"FlowGatesModel", "ticks", "(I)I"⟩ ⟨"FlowGatesModel", "ticks", "(I)I"⟩ ∈ lw_tbl := List.mem_of_getElem? (i := 32) (by decide +kernel)
theorem ws_33 : Cond.selects "FlowGatesModel" ⟨"FlowGatesModel", "packs", "(II)I"⟩ ⟨"FlowGatesModel", "packs", "(II)I"⟩ ∈ lw_tbl := List.mem_of_getElem? (i := 33) (by decide +kernel)
theorem ws_34 : Cond.selects "FlowGatesModel" ⟨"FlowGatesModel", "goesTo", "(II)I"⟩ ⟨"FlowGatesModel", "goesTo", "(II)I"⟩ ∈ lw_tbl := List.mem_of_getElem? (i := 34) (by decide +kernel)
theorem ws_35 : Cond.selects "FlowGatesModel" ⟨"FlowGatesModel", "placeOf", "(II)I"⟩ ⟨"FlowGatesModel", "placeOf", "(II)I"⟩ ∈ lw_tbl := List.mem_of_getElem? (i := 35) (by decide +kernel)
theorem ws_36 : Cond.selects "FlowGatesModel" ⟨"FlowGatesModel", "laysGate", "(I)V"⟩ ⟨"FlowGatesModel", "laysGate", "(I)V"⟩ ∈ lw_tbl := List.mem_of_getElem? (i := 36) (by decide +kernel)
theorem ws_37 : Cond.selects "FlowGatesModel" ⟨"FlowGatesModel", "sees", "(I)V"⟩ ⟨"FlowGatesModel", "sees", "(I)V"⟩ ∈ lw_tbl := List.mem_of_getElem? (i := 37) (by decide +kernel)
theorem ws_38 : Cond.selects "FlowGatesModel" ⟨"FlowGatesModel", "lays", "(I)V"⟩ ⟨"FlowGatesModel", "lays", "(I)V"⟩ ∈ lw_tbl := List.mem_of_getElem? (i := 38) (by decide +kernel)
theorem ws_39 : Cond.selects "FlowGatesModel" ⟨"FlowGatesModel", "greatest", "()I"⟩ ⟨"FlowGatesModel", "greatest", "()I"⟩ ∈ lw_tbl := List.mem_of_getElem? (i := 39) (by decide +kernel)
theorem ws_40 : Cond.selects "FlowGatesModel" ⟨"FlowGatesModel", "takes", "(II)V"⟩ ⟨"FlowGatesModel", "takes", "(II)V"⟩ ∈ lw_tbl := List.mem_of_getElem? (i := 40) (by decide +kernel)
theorem ws_41 : Cond.selects "FlowGatesModel" ⟨"FlowGatesModel", "offset", "(II)I"⟩ ⟨"FlowGatesModel", "offset", "(II)I"⟩ ∈ lw_tbl := List.mem_of_getElem? (i := 41) (by decide +kernel)
theorem ws_42 : Cond.selects "FlowGatesModel" ⟨"FlowGatesModel", "skip", "(II)I"⟩ ⟨"FlowGatesModel", "skip", "(II)I"⟩ ∈ lw_tbl := List.mem_of_getElem? (i := 42) (by decide +kernel)
theorem ws_43 : Cond.selects "FlowGatesModel" ⟨"FlowGatesModel", "slotOf", "(I)I"⟩ ⟨"FlowGatesModel", "slotOf", "(I)I"⟩ ∈ lw_tbl := List.mem_of_getElem? (i := 43) (by decide +kernel)
theorem ws_44 : Cond.selects "FlowGatesModel" ⟨"FlowGatesModel", "four", "(I)V"⟩ ⟨"FlowGatesModel", "four", "(I)V"⟩ ∈ lw_tbl := List.mem_of_getElem? (i := 44) (by decide +kernel)
theorem ws_45 : Cond.selects "FlowGatesModel" ⟨"FlowGatesModel", "readText", "()Z"⟩ ⟨"FlowGatesModel", "readText", "()Z"⟩ ∈ lw_tbl := List.mem_of_getElem? (i := 45) (by decide +kernel)
theorem ws_46 : Cond.selects "FlowGatesModel" ⟨"FlowGatesModel", "here", "()I"⟩ ⟨"FlowGatesModel", "here", "()I"⟩ ∈ lw_tbl := List.mem_of_getElem? (i := 46) (by decide +kernel)
theorem ws_47 : Cond.selects "FlowGatesModel" ⟨"FlowGatesModel", "readStatement", "()Z"⟩ ⟨"FlowGatesModel", "readStatement", "()Z"⟩ ∈ lw_tbl := List.mem_of_getElem? (i := 47) (by decide +kernel)
theorem ws_48 : Cond.selects "FlowGatesModel" ⟨"FlowGatesModel", "isWord", "()Z"⟩ ⟨"FlowGatesModel", "isWord", "()Z"⟩ ∈ lw_tbl := List.mem_of_getElem? (i := 48) (by decide +kernel)
theorem ws_49 : Cond.selects "FlowGatesModel" ⟨"FlowGatesModel", "fails", "(II)Z"⟩ ⟨"FlowGatesModel", "fails", "(II)Z"⟩ ∈ lw_tbl := List.mem_of_getElem? (i := 49) (by decide +kernel)
theorem ws_50 : Cond.selects "FlowGatesModel" ⟨"FlowGatesModel", "readWord", "()J"⟩ ⟨"FlowGatesModel", "readWord", "()J"⟩ ∈ lw_tbl := List.mem_of_getElem? (i := 50) (by decide +kernel)
theorem ws_51 : Cond.selects "FlowGatesModel" ⟨"FlowGatesModel", "readSize", "()Z"⟩ ⟨"FlowGatesModel", "readSize", "()Z"⟩ ∈ lw_tbl := List.mem_of_getElem? (i := 51) (by decide +kernel)
theorem ws_52 : Cond.selects "FlowGatesModel" ⟨"FlowGatesModel", "number", "(II)Z"⟩ ⟨"FlowGatesModel", "number", "(II)Z"⟩ ∈ lw_tbl := List.mem_of_getElem? (i := 52) (by decide +kernel)
theorem ws_53 : Cond.selects "FlowGatesModel" ⟨"FlowGatesModel", "ends", "()Z"⟩ ⟨"FlowGatesModel", "ends", "()Z"⟩ ∈ lw_tbl := List.mem_of_getElem? (i := 53) (by decide +kernel)
theorem ws_54 : Cond.selects "FlowGatesModel" ⟨"FlowGatesModel", "readBack", "(I)Z"⟩ ⟨"FlowGatesModel", "readBack", "(I)Z"⟩ ∈ lw_tbl := List.mem_of_getElem? (i := 54) (by decide +kernel)
theorem ws_55 : Cond.selects "FlowGatesModel" ⟨"FlowGatesModel", "readWeigh", "()Z"⟩ ⟨"FlowGatesModel", "readWeigh", "()Z"⟩ ∈ lw_tbl := List.mem_of_getElem? (i := 55) (by decide +kernel)
theorem ws_56 : Cond.selects "FlowGatesModel" ⟨"FlowGatesModel", "readSee", "()Z"⟩ ⟨"FlowGatesModel", "readSee", "()Z"⟩ ∈ lw_tbl := List.mem_of_getElem? (i := 56) (by decide +kernel)
theorem ws_57 : Cond.selects "FlowGatesModel" ⟨"FlowGatesModel", "gates", "()Z"⟩ ⟨"FlowGatesModel", "gates", "()Z"⟩ ∈ lw_tbl := List.mem_of_getElem? (i := 57) (by decide +kernel)
theorem ws_58 : Cond.selects "FlowGatesModel" ⟨"FlowGatesModel", "readTick", "()Z"⟩ ⟨"FlowGatesModel", "readTick", "()Z"⟩ ∈ lw_tbl := List.mem_of_getElem? (i := 58) (by decide +kernel)
theorem ws_59 : Cond.selects "FlowGatesModel" ⟨"FlowGatesModel", "readHold", "(I)Z"⟩ ⟨"FlowGatesModel", "readHold", "(I)Z"⟩ ∈ lw_tbl := List.mem_of_getElem? (i := 59) (by decide +kernel)
theorem ws_60 : Cond.selects "FlowGatesModel" ⟨"FlowGatesModel", "readPack", "()Z"⟩ ⟨"FlowGatesModel", "readPack", "()Z"⟩ ∈ lw_tbl := List.mem_of_getElem? (i := 60) (by decide +kernel)
theorem ws_61 : Cond.selects "FlowGatesModel" ⟨"FlowGatesModel", "isSlot", "(I)Z"⟩ ⟨"FlowGatesModel", "isSlot", "(I)Z"⟩ ∈ lw_tbl := List.mem_of_getElem? (i := 61) (by decide +kernel)
theorem ws_62 : Cond.selects "FlowGatesModel" ⟨"FlowGatesModel", "sharedBy", "(II)I"⟩ ⟨"FlowGatesModel", "sharedBy", "(II)I"⟩ ∈ lw_tbl := List.mem_of_getElem? (i := 62) (by decide +kernel)
theorem ws_63 : Cond.selects "FlowGatesModel" ⟨"FlowGatesModel", "unevenBy", "(I)I"⟩ ⟨"FlowGatesModel", "unevenBy", "(I)I"⟩ ∈ lw_tbl := List.mem_of_getElem? (i := 63) (by decide +kernel)
theorem ws_64 : Cond.selects "FlowGatesModel" ⟨"FlowGatesModel", "copiesLaid", "()V"⟩ ⟨"FlowGatesModel", "copiesLaid", "()V"⟩ ∈ lw_tbl := List.mem_of_getElem? (i := 64) (by decide +kernel)
theorem ws_65 : Cond.selects "FlowGatesModel" ⟨"FlowGatesModel", "wereBy", "(IIIZ)I"⟩ ⟨"FlowGatesModel", "wereBy", "(IIIZ)I"⟩ ∈ lw_tbl := List.mem_of_getElem? (i := 65) (by decide +kernel)
abbrev mX8_init : MI := (yX8_init, cX8_init, 1, none)
theorem mX8_init_ok : mi_ok mX8_init := ⟨by decide +kernel, w_28, w_1, ⟨by decide +kernel, by decide +kernel⟩, by decide⟩
abbrev mX4_init : MI := (yX4_init, cX4_init, 1, none)
theorem mX4_init_ok : mi_ok mX4_init := ⟨by decide +kernel, w_36, w_2, ⟨by decide +kernel, by decide +kernel⟩, by decide⟩
abbrev mX3_init : MI := (yX3_init, cX3_init, 1, none)
theorem mX3_init_ok : mi_ok mX3_init := ⟨by decide +kernel, w_53, w_3, ⟨by decide +kernel, by decide +kernel⟩, by decide⟩
abbrev mX7_init : MI := (yX7_init, cX7_init, 2, none)
theorem mX7_init_ok : mi_ok mX7_init := ⟨by decide +kernel, w_78, w_4, ⟨by decide +kernel, by decide +kernel⟩, by decide⟩
abbrev mX1_init : MI := (yX1_init, cX1_init, 1, none)
theorem mX1_init_ok : mi_ok mX1_init := ⟨by decide +kernel, w_85, w_5, ⟨by decide +kernel, by decide +kernel⟩, by decide⟩
abbrev mX2_init : MI := (yX2_init, cX2_init, 1, none)
theorem mX2_init_ok : mi_ok mX2_init := ⟨by decide +kernel, w_91, w_6, ⟨by decide +kernel, by decide +kernel⟩, by decide⟩
abbrev mX5_init : MI := (yX5_init, cX5_init, 2, none)
theorem mX5_init_ok : mi_ok mX5_init := ⟨by decide +kernel, w_175, w_7, ⟨by decide +kernel, by decide +kernel⟩, by decide⟩
abbrev mX8_feed : MI := (yX8_feed, cX8_feed, 6, (some .int))
theorem mX8_feed_ok : mi_ok mX8_feed := ⟨by decide +kernel, w_223, w_1, ⟨by decide +kernel, by decide +kernel⟩, by decide⟩
abbrev mX4_add : MI := (yX4_add, cX4_add, 3, none)
theorem mX4_add_ok : mi_ok mX4_add := ⟨by decide +kernel, w_227, w_2, ⟨by decide +kernel, by decide +kernel⟩, by decide⟩
abbrev mX8_end : MI := (yX8_end, cX8_end, 2, (some .boolean))
theorem mX8_end_ok : mi_ok mX8_end := ⟨by decide +kernel, w_231, w_1, ⟨by decide +kernel, by decide +kernel⟩, by decide⟩
abbrev mX8_tell : MI := (yX8_tell, cX8_tell, 3, (some .int))
theorem mX8_tell_ok : mi_ok mX8_tell := ⟨by decide +kernel, w_235, w_1, ⟨by decide +kernel, by decide +kernel⟩, by decide⟩
abbrev mX7_copyFrom : MI := (yX7_copyFrom, cX7_copyFrom, 3, none)
theorem mX7_copyFrom_ok : mi_ok mX7_copyFrom := ⟨by decide +kernel, w_239, w_4, ⟨by decide +kernel, by decide +kernel⟩, by decide⟩
abbrev mX1_copyFrom : MI := (yX1_copyFrom, cX1_copyFrom, 2, none)
theorem mX1_copyFrom_ok : mi_ok mX1_copyFrom := ⟨by decide +kernel, w_246, w_5, ⟨by decide +kernel, by decide +kernel⟩, by decide⟩
abbrev mX2_copyFrom : MI := (yX2_copyFrom, cX2_copyFrom, 2, none)
theorem mX2_copyFrom_ok : mi_ok mX2_copyFrom := ⟨by decide +kernel, w_251, w_6, ⟨by decide +kernel, by decide +kernel⟩, by decide⟩
abbrev mX5_begin : MI := (yX5_begin, cX5_begin, 1, none)
theorem mX5_begin_ok : mi_ok mX5_begin := ⟨by decide +kernel, w_256, w_7, ⟨by decide +kernel, by decide +kernel⟩, by decide⟩
abbrev mX5_advance : MI := (yX5_advance, cX5_advance, 1, none)
theorem mX5_advance_ok : mi_ok mX5_advance := ⟨by decide +kernel, w_260, w_7, ⟨by decide +kernel, by decide +kernel⟩, by decide⟩
abbrev mX5_kindAt : MI := (yX5_kindAt, cX5_kindAt, 3, (some .int))
theorem mX5_kindAt_ok : mi_ok mX5_kindAt := ⟨by decide +kernel, w_264, w_7, ⟨by decide +kernel, by decide +kernel⟩, by decide⟩
abbrev mX5_hasMore : MI := (yX5_hasMore, cX5_hasMore, 1, (some .boolean))
theorem mX5_hasMore_ok : mi_ok mX5_hasMore := ⟨by decide +kernel, w_268, w_7, ⟨by decide +kernel, by decide +kernel⟩, by decide⟩
abbrev mX5_reads : MI := (yX5_reads, cX5_reads, 4, (some .boolean))
theorem mX5_reads_ok : mi_ok mX5_reads := ⟨by decide +kernel, w_272, w_7, ⟨by decide +kernel, by decide +kernel⟩, by decide⟩
abbrev mX5_takesVerb : MI := (yX5_takesVerb, cX5_takesVerb, 2, (some .boolean))
theorem mX5_takesVerb_ok : mi_ok mX5_takesVerb := ⟨by decide +kernel, w_276, w_7, ⟨by decide +kernel, by decide +kernel⟩, by decide⟩
abbrev mX5_takes : MI := (yX5_takes, cX5_takes, 3, (some .boolean))
theorem mX5_takes_ok : mi_ok mX5_takes := ⟨by decide +kernel, w_282, w_7, ⟨by decide +kernel, by decide +kernel⟩, by decide⟩
abbrev mJ0_length_8abf5 : MI := (yJ0_length_8abf5, cJ0_length_8abf5, 1, (some .int))
theorem mJ0_length_8abf5_ok : mi_ok mJ0_length_8abf5 := ⟨by decide +kernel, w_286, w_12, ⟨by decide +kernel, by decide +kernel⟩, by decide⟩
abbrev mJ0_coder_7d493 : MI := (yJ0_coder_7d493, cJ0_coder_7d493, 1, (some .byte))
theorem mJ0_coder_7d493_ok : mi_ok mJ0_coder_7d493 := ⟨by decide +kernel, w_290, w_12, ⟨by decide +kernel, by decide +kernel⟩, by decide⟩
abbrev mJ0_charAt_5068e : MI := (yJ0_charAt_5068e, cJ0_charAt_5068e, 2, (some .char))
theorem mJ0_charAt_5068e_ok : mi_ok mJ0_charAt_5068e := ⟨by decide +kernel, w_296, w_12, ⟨by decide +kernel, by decide +kernel⟩, by decide⟩
abbrev mJ0_isLatin1_aae02 : MI := (yJ0_isLatin1_aae02, cJ0_isLatin1_aae02, 1, (some .boolean))
theorem mJ0_isLatin1_aae02_ok : mi_ok mJ0_isLatin1_aae02 := ⟨by decide +kernel, w_300, w_12, ⟨by decide +kernel, by decide +kernel⟩, by decide⟩
abbrev mJ1_charAt_3b067 : MI := (yJ1_charAt_3b067, cJ1_charAt_3b067, 2, (some .char))
theorem mJ1_charAt_3b067_ok : mi_ok mJ1_charAt_3b067 := ⟨by decide +kernel, w_303, w_13, ⟨by decide +kernel, by decide +kernel⟩, by decide⟩
abbrev mJ0_checkIndex_df160 : MI := (yJ0_checkIndex_df160, cJ0_checkIndex_df160, 2, none)
theorem mJ0_checkIndex_df160_ok : mi_ok mJ0_checkIndex_df160 := ⟨by decide +kernel, w_306, w_12, ⟨by decide +kernel, by decide +kernel⟩, by decide⟩
abbrev mJ3_checkIndex_8e157 : MI := (yJ3_checkIndex_8e157, cJ3_checkIndex_8e157, 3, (some .int))
theorem mJ3_checkIndex_8e157_ok : mi_ok mJ3_checkIndex_8e157 := ⟨by decide +kernel, w_311, w_14, ⟨by decide +kernel, by decide +kernel⟩, by decide⟩
abbrev mJ2_charAt_3b067 : MI := (yJ2_charAt_3b067, cJ2_charAt_3b067, 2, (some .char))
theorem mJ2_charAt_3b067_ok : mi_ok mJ2_charAt_3b067 := ⟨by decide +kernel, w_314, w_15, ⟨by decide +kernel, by decide +kernel⟩, by decide⟩
abbrev mJ2_checkIndex_2214a : MI := (yJ2_checkIndex_2214a, cJ2_checkIndex_2214a, 2, none)
theorem mJ2_checkIndex_2214a_ok : mi_ok mJ2_checkIndex_2214a := ⟨by decide +kernel, w_317, w_15, ⟨by decide +kernel, by decide +kernel⟩, by decide⟩
abbrev mJ2_length_9d52b : MI := (yJ2_length_9d52b, cJ2_length_9d52b, 1, (some .int))
theorem mJ2_length_9d52b_ok : mi_ok mJ2_length_9d52b := ⟨by decide +kernel, w_320, w_15, ⟨by decide +kernel, by decide +kernel⟩, by decide⟩
abbrev mJ2_getChar_3b067 : MI := (yJ2_getChar_3b067, cJ2_getChar_3b067, 2, (some .char))
theorem mJ2_getChar_3b067_ok : mi_ok mJ2_getChar_3b067 := ⟨by decide +kernel, w_324, w_15, ⟨by decide +kernel, by decide +kernel⟩, by decide⟩
abbrev mX5_fail : MI := (yX5_fail, cX5_fail, 3, none)
theorem mX5_fail_ok : mi_ok mX5_fail := ⟨by decide +kernel, w_334, w_7, ⟨by decide +kernel, by decide +kernel⟩, by decide⟩
abbrev mX5_readNext : MI := (yX5_readNext, cX5_readNext, 4, (some .int))
theorem mX5_readNext_ok : mi_ok mX5_readNext := ⟨by decide +kernel, w_340, w_7, ⟨by decide +kernel, by decide +kernel⟩, by decide⟩
abbrev mX5_readHow : MI := (yX5_readHow, cX5_readHow, 1, (some .int))
theorem mX5_readHow_ok : mi_ok mX5_readHow := ⟨by decide +kernel, w_344, w_7, ⟨by decide +kernel, by decide +kernel⟩, by decide⟩
abbrev mX5_numberHere : MI := (yX5_numberHere, cX5_numberHere, 3, (some .int))
theorem mX5_numberHere_ok : mi_ok mX5_numberHere := ⟨by decide +kernel, w_352, w_7, ⟨by decide +kernel, by decide +kernel⟩, by decide⟩
abbrev mX5_canBe : MI := (yX5_canBe, cX5_canBe, 3, (some .boolean))
theorem mX5_canBe_ok : mi_ok mX5_canBe := ⟨by decide +kernel, w_355, w_7, ⟨by decide +kernel, by decide +kernel⟩, by decide⟩
abbrev mX8_isSize : MI := (yX8_isSize, cX8_isSize, 2, (some .boolean))
theorem mX8_isSize_ok : mi_ok mX8_isSize := ⟨by decide +kernel, w_358, w_1, ⟨by decide +kernel, by decide +kernel⟩, by decide⟩
abbrev mX7_hasKey : MI := (yX7_hasKey, cX7_hasKey, 3, (some .boolean))
theorem mX7_hasKey_ok : mi_ok mX7_hasKey := ⟨by decide +kernel, w_364, w_4, ⟨by decide +kernel, by decide +kernel⟩, by decide⟩
abbrev mX8_isWithin : MI := (yX8_isWithin, cX8_isWithin, 3, (some .boolean))
theorem mX8_isWithin_ok : mi_ok mX8_isWithin := ⟨by decide +kernel, w_367, w_1, ⟨by decide +kernel, by decide +kernel⟩, by decide⟩
abbrev mX7_isBackend : MI := (yX7_isBackend, cX7_isBackend, 2, (some .boolean))
theorem mX7_isBackend_ok : mi_ok mX7_isBackend := ⟨by decide +kernel, w_371, w_4, ⟨by decide +kernel, by decide +kernel⟩, by decide⟩
abbrev mX8_isGate : MI := (yX8_isGate, cX8_isGate, 1, (some .boolean))
theorem mX8_isGate_ok : mi_ok mX8_isGate := ⟨by decide +kernel, w_374, w_1, ⟨by decide +kernel, by decide +kernel⟩, by decide⟩
abbrev mX8_isFlow : MI := (yX8_isFlow, cX8_isFlow, 1, (some .boolean))
theorem mX8_isFlow_ok : mi_ok mX8_isFlow := ⟨by decide +kernel, w_378, w_1, ⟨by decide +kernel, by decide +kernel⟩, by decide⟩
abbrev mX7_perform : MI := (yX7_perform, cX7_perform, 4, none)
theorem mX7_perform_ok : mi_ok mX7_perform := ⟨by decide +kernel, w_382, w_4, ⟨by decide +kernel, by decide +kernel⟩, by decide⟩
abbrev mJx29ce0_ordinal_8abf5 : MI := (yJx29ce0_ordinal_8abf5, cJx29ce0_ordinal_8abf5, 1, (some .int))
theorem mJx29ce0_ordinal_8abf5_ok : mi_ok mJx29ce0_ordinal_8abf5 := ⟨by decide +kernel, w_390, w_8, ⟨by decide +kernel, by decide +kernel⟩, by decide⟩
abbrev mX7_resize : MI := (yX7_resize, cX7_resize, 3, none)
theorem mX7_resize_ok : mi_ok mX7_resize := ⟨by decide +kernel, w_394, w_4, ⟨by decide +kernel, by decide +kernel⟩, by decide⟩
abbrev mX7_addBackend : MI := (yX7_addBackend, cX7_addBackend, 3, none)
theorem mX7_addBackend_ok : mi_ok mX7_addBackend := ⟨by decide +kernel, w_398, w_4, ⟨by decide +kernel, by decide +kernel⟩, by decide⟩
abbrev mX7_show : MI := (yX7_show, cX7_show, 6, (some .int))
theorem mX7_show_ok : mi_ok mX7_show := ⟨by decide +kernel, w_402, w_4, ⟨by decide +kernel, by decide +kernel⟩, by decide⟩
abbrev mX7_passTicks : MI := (yX7_passTicks, cX7_passTicks, 2, none)
theorem mX7_passTicks_ok : mi_ok mX7_passTicks := ⟨by decide +kernel, w_406, w_4, ⟨by decide +kernel, by decide +kernel⟩, by decide⟩
abbrev mX7_forgetAged : MI := (yX7_forgetAged, cX7_forgetAged, 2, none)
theorem mX7_forgetAged_ok : mi_ok mX7_forgetAged := ⟨by decide +kernel, w_410, w_4, ⟨by decide +kernel, by decide +kernel⟩, by decide⟩
abbrev mX2_dropBefore : MI := (yX2_dropBefore, cX2_dropBefore, 3, none)
theorem mX2_dropBefore_ok : mi_ok mX2_dropBefore := ⟨by decide +kernel, w_414, w_6, ⟨by decide +kernel, by decide +kernel⟩, by decide⟩
abbrev mX2_drop : MI := (yX2_drop, cX2_drop, 3, none)
theorem mX2_drop_ok : mi_ok mX2_drop := ⟨by decide +kernel, w_418, w_6, ⟨by decide +kernel, by decide +kernel⟩, by decide⟩
abbrev mX2_move : MI := (yX2_move, cX2_move, 3, none)
theorem mX2_move_ok : mi_ok mX2_move := ⟨by decide +kernel, w_422, w_6, ⟨by decide +kernel, by decide +kernel⟩, by decide⟩
abbrev mX7_changeRoom : MI := (yX7_changeRoom, cX7_changeRoom, 3, none)
theorem mX7_changeRoom_ok : mi_ok mX7_changeRoom := ⟨by decide +kernel, w_426, w_4, ⟨by decide +kernel, by decide +kernel⟩, by decide⟩
abbrev mX2_shrinkTo : MI := (yX2_shrinkTo, cX2_shrinkTo, 3, none)
theorem mX2_shrinkTo_ok : mi_ok mX2_shrinkTo := ⟨by decide +kernel, w_430, w_6, ⟨by decide +kernel, by decide +kernel⟩, by decide⟩
abbrev mX2_eldest : MI := (yX2_eldest, cX2_eldest, 3, (some .int))
theorem mX2_eldest_ok : mi_ok mX2_eldest := ⟨by decide +kernel, w_434, w_6, ⟨by decide +kernel, by decide +kernel⟩, by decide⟩
abbrev mX7_changeAge : MI := (yX7_changeAge, cX7_changeAge, 2, none)
theorem mX7_changeAge_ok : mi_ok mX7_changeAge := ⟨by decide +kernel, w_438, w_4, ⟨by decide +kernel, by decide +kernel⟩, by decide⟩
abbrev mX7_send : MI := (yX7_send, cX7_send, 6, (some .int))
theorem mX7_send_ok : mi_ok mX7_send := ⟨by decide +kernel, w_442, w_4, ⟨by decide +kernel, by decide +kernel⟩, by decide⟩
abbrev mX1_knownGoal : MI := (yX1_knownGoal, cX1_knownGoal, 3, (some .int))
theorem mX1_knownGoal_ok : mi_ok mX1_knownGoal := ⟨by decide +kernel, w_446, w_5, ⟨by decide +kernel, by decide +kernel⟩, by decide⟩
abbrev mX2_find : MI := (yX2_find, cX2_find, 3, (some .int))
theorem mX2_find_ok : mi_ok mX2_find := ⟨by decide +kernel, w_450, w_6, ⟨by decide +kernel, by decide +kernel⟩, by decide⟩
abbrev mX1_ups : MI := (yX1_ups, cX1_ups, 3, (some .int))
theorem mX1_ups_ok : mi_ok mX1_ups := ⟨by decide +kernel, w_454, w_5, ⟨by decide +kernel, by decide +kernel⟩, by decide⟩
abbrev mX3_make : MI := (yX3_make, cX3_make, 9, none)
theorem mX3_make_ok : mi_ok mX3_make := ⟨by decide +kernel, w_458, w_3, ⟨by decide +kernel, by decide +kernel⟩, by decide⟩
abbrev mX3_start : MI := (yX3_start, cX3_start, 7, (some .int))
theorem mX3_start_ok : mi_ok mX3_start := ⟨by decide +kernel, w_462, w_3, ⟨by decide +kernel, by decide +kernel⟩, by decide⟩
abbrev mX8_isAmong : MI := (yX8_isAmong, cX8_isAmong, 2, (some .boolean))
theorem mX8_isAmong_ok : mi_ok mX8_isAmong := ⟨by decide +kernel, w_465, w_1, ⟨by decide +kernel, by decide +kernel⟩, by decide⟩
abbrev mX8_offsetOf : MI := (yX8_offsetOf, cX8_offsetOf, 2, (some .int))
theorem mX8_offsetOf_ok : mi_ok mX8_offsetOf := ⟨by decide +kernel, w_468, w_1, ⟨by decide +kernel, by decide +kernel⟩, by decide⟩
abbrev mX8_mix : MI := (yX8_mix, cX8_mix, 3, (some .int))
theorem mX8_mix_ok : mi_ok mX8_mix := ⟨by decide +kernel, w_472, w_1, ⟨by decide +kernel, by decide +kernel⟩, by decide⟩
abbrev mX8_modulo : MI := (yX8_modulo, cX8_modulo, 2, (some .int))
theorem mX8_modulo_ok : mi_ok mX8_modulo := ⟨by decide +kernel, w_476, w_1, ⟨by decide +kernel, by decide +kernel⟩, by decide⟩
abbrev mX8_skipOf : MI := (yX8_skipOf, cX8_skipOf, 2, (some .int))
theorem mX8_skipOf_ok : mi_ok mX8_skipOf := ⟨by decide +kernel, w_479, w_1, ⟨by decide +kernel, by decide +kernel⟩, by decide⟩
abbrev mJ9_max_7cf53 : MI := (yJ9_max_7cf53, cJ9_max_7cf53, 2, (some .int))
theorem mJ9_max_7cf53_ok : mi_ok mJ9_max_7cf53 := ⟨by decide +kernel, w_483, w_17, ⟨by decide +kernel, by decide +kernel⟩, by decide⟩
abbrev mX3_take : MI := (yX3_take, cX3_take, 6, none)
theorem mX3_take_ok : mi_ok mX3_take := ⟨by decide +kernel, w_487, w_3, ⟨by decide +kernel, by decide +kernel⟩, by decide⟩
abbrev mX8_slotOfFlow : MI := (yX8_slotOfFlow, cX8_slotOfFlow, 2, (some .int))
theorem mX8_slotOfFlow_ok : mi_ok mX8_slotOfFlow := ⟨by decide +kernel, w_491, w_1, ⟨by decide +kernel, by decide +kernel⟩, by decide⟩
abbrev mX2_put : MI := (yX2_put, cX2_put, 6, none)
theorem mX2_put_ok : mi_ok mX2_put := ⟨by decide +kernel, w_496, w_6, ⟨by decide +kernel, by decide +kernel⟩, by decide⟩
abbrev mX2_openAt : MI := (yX2_openAt, cX2_openAt, 4, (some .int))
theorem mX2_openAt_ok : mi_ok mX2_openAt := ⟨by decide +kernel, w_502, w_6, ⟨by decide +kernel, by decide +kernel⟩, by decide⟩
abbrev mX8_fault : MI := (yX8_fault, cX8_fault, 1, (some .int))
theorem mX8_fault_ok : mi_ok mX8_fault := ⟨by decide +kernel, w_509, w_1, ⟨by decide +kernel, by decide +kernel⟩, by decide⟩
abbrev mX8_size : MI := (yX8_size, cX8_size, 2, (some .boolean))
theorem mX8_size_ok : mi_ok mX8_size := ⟨by decide +kernel, w_513, w_1, ⟨by decide +kernel, by decide +kernel⟩, by decide⟩
abbrev mX8_back : MI := (yX8_back, cX8_back, 3, (some .int))
theorem mX8_back_ok : mi_ok mX8_back := ⟨by decide +kernel, w_519, w_1, ⟨by decide +kernel, by decide +kernel⟩, by decide⟩
abbrev mX8_weigh : MI := (yX8_weigh, cX8_weigh, 3, (some .boolean))
theorem mX8_weigh_ok : mi_ok mX8_weigh := ⟨by decide +kernel, w_525, w_1, ⟨by decide +kernel, by decide +kernel⟩, by decide⟩
abbrev mX8_see : MI := (yX8_see, cX8_see, 4, (some .int))
theorem mX8_see_ok : mi_ok mX8_see := ⟨by decide +kernel, w_530, w_1, ⟨by decide +kernel, by decide +kernel⟩, by decide⟩
abbrev mX8_isState : MI := (yX8_isState, cX8_isState, 1, (some .boolean))
theorem mX8_isState_ok : mi_ok mX8_isState := ⟨by decide +kernel, w_534, w_1, ⟨by decide +kernel, by decide +kernel⟩, by decide⟩
abbrev mX8_set : MI := (yX8_set, cX8_set, 3, (some .boolean))
theorem mX8_set_ok : mi_ok mX8_set := ⟨by decide +kernel, w_539, w_1, ⟨by decide +kernel, by decide +kernel⟩, by decide⟩
abbrev mX8_tick : MI := (yX8_tick, cX8_tick, 2, (some .int))
theorem mX8_tick_ok : mi_ok mX8_tick := ⟨by decide +kernel, w_545, w_1, ⟨by decide +kernel, by decide +kernel⟩, by decide⟩
abbrev mX8_pack : MI := (yX8_pack, cX8_pack, 3, (some .int))
theorem mX8_pack_ok : mi_ok mX8_pack := ⟨by decide +kernel, w_550, w_1, ⟨by decide +kernel, by decide +kernel⟩, by decide⟩
abbrev mX8_keep : MI := (yX8_keep, cX8_keep, 3, (some .boolean))
theorem mX8_keep_ok : mi_ok mX8_keep := ⟨by decide +kernel, w_556, w_1, ⟨by decide +kernel, by decide +kernel⟩, by decide⟩
abbrev mX8_makeTable : MI := (yX8_makeTable, cX8_makeTable, 3, none)
theorem mX8_makeTable_ok : mi_ok mX8_makeTable := ⟨by decide +kernel, w_561, w_1, ⟨by decide +kernel, by decide +kernel⟩, by decide⟩
abbrev mX8_count : MI := (yX8_count, cX8_count, 2, (some .int))
theorem mX8_count_ok : mi_ok mX8_count := ⟨by decide +kernel, w_566, w_1, ⟨by decide +kernel, by decide +kernel⟩, by decide⟩
abbrev mX8_slot : MI := (yX8_slot, cX8_slot, 4, (some .int))
theorem mX8_slot_ok : mi_ok mX8_slot := ⟨by decide +kernel, w_570, w_1, ⟨by decide +kernel, by decide +kernel⟩, by decide⟩
abbrev mX7_isSlot : MI := (yX7_isSlot, cX7_isSlot, 2, (some .boolean))
theorem mX7_isSlot_ok : mi_ok mX7_isSlot := ⟨by decide +kernel, w_574, w_4, ⟨by decide +kernel, by decide +kernel⟩, by decide⟩
abbrev mX8_table : MI := (yX8_table, cX8_table, 3, (some .int))
theorem mX8_table_ok : mi_ok mX8_table := ⟨by decide +kernel, w_580, w_1, ⟨by decide +kernel, by decide +kernel⟩, by decide⟩
abbrev mX8_share : MI := (yX8_share, cX8_share, 3, (some .int))
theorem mX8_share_ok : mi_ok mX8_share := ⟨by decide +kernel, w_584, w_1, ⟨by decide +kernel, by decide +kernel⟩, by decide⟩
abbrev mX8_slotsOf : MI := (yX8_slotsOf, cX8_slotsOf, 5, (some .int))
theorem mX8_slotsOf_ok : mi_ok mX8_slotsOf := ⟨by decide +kernel, w_587, w_1, ⟨by decide +kernel, by decide +kernel⟩, by decide⟩
abbrev mX8_shareBits : MI := (yX8_shareBits, cX8_shareBits, 4, (some .int))
theorem mX8_shareBits_ok : mi_ok mX8_shareBits := ⟨by decide +kernel, w_591, w_1, ⟨by decide +kernel, by decide +kernel⟩, by decide⟩
abbrev mX8_bitsOf : MI := (yX8_bitsOf, cX8_bitsOf, 4, (some .int))
theorem mX8_bitsOf_ok : mi_ok mX8_bitsOf := ⟨by decide +kernel, w_595, w_1, ⟨by decide +kernel, by decide +kernel⟩, by decide⟩
abbrev mX8_uneven : MI := (yX8_uneven, cX8_uneven, 2, (some .int))
theorem mX8_uneven_ok : mi_ok mX8_uneven := ⟨by decide +kernel, w_601, w_1, ⟨by decide +kernel, by decide +kernel⟩, by decide⟩
abbrev mX8_unevenAt : MI := (yX8_unevenAt, cX8_unevenAt, 7, (some .int))
theorem mX8_unevenAt_ok : mi_ok mX8_unevenAt := ⟨by decide +kernel, w_605, w_1, ⟨by decide +kernel, by decide +kernel⟩, by decide⟩
abbrev mJ9_abs_0f7a4 : MI := (yJ9_abs_0f7a4, cJ9_abs_0f7a4, 1, (some .int))
theorem mJ9_abs_0f7a4_ok : mi_ok mJ9_abs_0f7a4 := ⟨by decide +kernel, w_609, w_17, ⟨by decide +kernel, by decide +kernel⟩, by decide⟩
abbrev mX8_evenest : MI := (yX8_evenest, cX8_evenest, 7, (some .int))
theorem mX8_evenest_ok : mi_ok mX8_evenest := ⟨by decide +kernel, w_614, w_1, ⟨by decide +kernel, by decide +kernel⟩, by decide⟩
abbrev mX8_changed : MI := (yX8_changed, cX8_changed, 4, (some .int))
theorem mX8_changed_ok : mi_ok mX8_changed := ⟨by decide +kernel, w_618, w_1, ⟨by decide +kernel, by decide +kernel⟩, by decide⟩
abbrev mX8_changes : MI := (yX8_changes, cX8_changes, 7, (some .int))
theorem mX8_changes_ok : mi_ok mX8_changes := ⟨by decide +kernel, w_622, w_1, ⟨by decide +kernel, by decide +kernel⟩, by decide⟩
abbrev mX8_alike : MI := (yX8_alike, cX8_alike, 3, (some .int))
theorem mX8_alike_ok : mi_ok mX8_alike := ⟨by decide +kernel, w_626, w_1, ⟨by decide +kernel, by decide +kernel⟩, by decide⟩
abbrev mX8_were : MI := (yX8_were, cX8_were, 7, (some .int))
theorem mX8_were_ok : mi_ok mX8_were := ⟨by decide +kernel, w_630, w_1, ⟨by decide +kernel, by decide +kernel⟩, by decide⟩
abbrev mX8_roughest : MI := (yX8_roughest, cX8_roughest, 8, (some .int))
theorem mX8_roughest_ok : mi_ok mX8_roughest := ⟨by decide +kernel, w_634, w_1, ⟨by decide +kernel, by decide +kernel⟩, by decide⟩
abbrev mX8_flow : MI := (yX8_flow, cX8_flow, 2, (some .int))
theorem mX8_flow_ok : mi_ok mX8_flow := ⟨by decide +kernel, w_638, w_1, ⟨by decide +kernel, by decide +kernel⟩, by decide⟩
abbrev mX8_remembers : MI := (yX8_remembers, cX8_remembers, 6, (some .int))
theorem mX8_remembers_ok : mi_ok mX8_remembers := ⟨by decide +kernel, w_643, w_1, ⟨by decide +kernel, by decide +kernel⟩, by decide⟩
abbrev mX8_flows : MI := (yX8_flows, cX8_flows, 4, (some .int))
theorem mX8_flows_ok : mi_ok mX8_flows := ⟨by decide +kernel, w_648, w_1, ⟨by decide +kernel, by decide +kernel⟩, by decide⟩
abbrev mX2_countTo : MI := (yX2_countTo, cX2_countTo, 4, (some .int))
theorem mX2_countTo_ok : mi_ok mX2_countTo := ⟨by decide +kernel, w_652, w_6, ⟨by decide +kernel, by decide +kernel⟩, by decide⟩
abbrev mX8_flowAt : MI := (yX8_flowAt, cX8_flowAt, 3, (some .int))
theorem mX8_flowAt_ok : mi_ok mX8_flowAt := ⟨by decide +kernel, w_656, w_1, ⟨by decide +kernel, by decide +kernel⟩, by decide⟩
abbrev mX8_astray : MI := (yX8_astray, cX8_astray, 9, (some .int))
theorem mX8_astray_ok : mi_ok mX8_astray := ⟨by decide +kernel, w_660, w_1, ⟨by decide +kernel, by decide +kernel⟩, by decide⟩
abbrev mX8_idle : MI := (yX8_idle, cX8_idle, 4, (some .int))
theorem mX8_idle_ok : mi_ok mX8_idle := ⟨by decide +kernel, w_665, w_1, ⟨by decide +kernel, by decide +kernel⟩, by decide⟩
abbrev mX2_latestTo : MI := (yX2_latestTo, cX2_latestTo, 4, (some .int))
theorem mX2_latestTo_ok : mi_ok mX2_latestTo := ⟨by decide +kernel, w_669, w_6, ⟨by decide +kernel, by decide +kernel⟩, by decide⟩
abbrev mX8_of : MI := (yX8_of, cX8_of, 3, (some .int))
theorem mX8_of_ok : mi_ok mX8_of := ⟨by decide +kernel, w_678, w_1, ⟨by decide +kernel, by decide +kernel⟩, by decide⟩
abbrev mX9_init : MI := (yX9_init, cX9_init, 1, none)
theorem mX9_init_ok : mi_ok mX9_init := ⟨by decide +kernel, w_749, w_10, ⟨by decide +kernel, by decide +kernel⟩, by decide⟩
abbrev mX9_thrown : MI := (yX9_thrown, cX9_thrown, 1, (some .int))
theorem mX9_thrown_ok : mi_ok mX9_thrown := ⟨by decide +kernel, w_807, w_10, ⟨by decide +kernel, by decide +kernel⟩, by decide⟩
abbrev mX9_size : MI := (yX9_size, cX9_size, 2, (some .boolean))
theorem mX9_size_ok : mi_ok mX9_size := ⟨by decide +kernel, w_811, w_10, ⟨by decide +kernel, by decide +kernel⟩, by decide⟩
abbrev mX9_isPrime : MI := (yX9_isPrime, cX9_isPrime, 2, (some .boolean))
theorem mX9_isPrime_ok : mi_ok mX9_isPrime := ⟨by decide +kernel, w_814, w_10, ⟨by decide +kernel, by decide +kernel⟩, by decide⟩
abbrev mX9_sizes : MI := (yX9_sizes, cX9_sizes, 3, none)
theorem mX9_sizes_ok : mi_ok mX9_sizes := ⟨by decide +kernel, w_818, w_10, ⟨by decide +kernel, by decide +kernel⟩, by decide⟩
abbrev mX9_back : MI := (yX9_back, cX9_back, 3, (some .int))
theorem mX9_back_ok : mi_ok mX9_back := ⟨by decide +kernel, w_822, w_10, ⟨by decide +kernel, by decide +kernel⟩, by decide⟩
abbrev mX9_in : MI := (yX9_in, cX9_in, 3, (some .boolean))
theorem mX9_in_ok : mi_ok mX9_in := ⟨by decide +kernel, w_825, w_10, ⟨by decide +kernel, by decide +kernel⟩, by decide⟩
abbrev mX9_isKey : MI := (yX9_isKey, cX9_isKey, 3, (some .boolean))
theorem mX9_isKey_ok : mi_ok mX9_isKey := ⟨by decide +kernel, w_829, w_10, ⟨by decide +kernel, by decide +kernel⟩, by decide⟩
abbrev mX9_backs : MI := (yX9_backs, cX9_backs, 5, (some .int))
theorem mX9_backs_ok : mi_ok mX9_backs := ⟨by decide +kernel, w_833, w_10, ⟨by decide +kernel, by decide +kernel⟩, by decide⟩
abbrev mX9_weigh : MI := (yX9_weigh, cX9_weigh, 3, (some .boolean))
theorem mX9_weigh_ok : mi_ok mX9_weigh := ⟨by decide +kernel, w_837, w_10, ⟨by decide +kernel, by decide +kernel⟩, by decide⟩
abbrev mX9_isBack : MI := (yX9_isBack, cX9_isBack, 2, (some .boolean))
theorem mX9_isBack_ok : mi_ok mX9_isBack := ⟨by decide +kernel, w_841, w_10, ⟨by decide +kernel, by decide +kernel⟩, by decide⟩
abbrev mX9_see : MI := (yX9_see, cX9_see, 4, (some .int))
theorem mX9_see_ok : mi_ok mX9_see := ⟨by decide +kernel, w_845, w_10, ⟨by decide +kernel, by decide +kernel⟩, by decide⟩
abbrev mX9_isGate : MI := (yX9_isGate, cX9_isGate, 1, (some .boolean))
theorem mX9_isGate_ok : mi_ok mX9_isGate := ⟨by decide +kernel, w_848, w_10, ⟨by decide +kernel, by decide +kernel⟩, by decide⟩
abbrev mX9_seesSo : MI := (yX9_seesSo, cX9_seesSo, 6, (some .int))
theorem mX9_seesSo_ok : mi_ok mX9_seesSo := ⟨by decide +kernel, w_852, w_10, ⟨by decide +kernel, by decide +kernel⟩, by decide⟩
abbrev mX9_stateOf : MI := (yX9_stateOf, cX9_stateOf, 3, (some .int))
theorem mX9_stateOf_ok : mi_ok mX9_stateOf := ⟨by decide +kernel, w_856, w_10, ⟨by decide +kernel, by decide +kernel⟩, by decide⟩
abbrev mX9_set : MI := (yX9_set, cX9_set, 3, (some .boolean))
theorem mX9_set_ok : mi_ok mX9_set := ⟨by decide +kernel, w_860, w_10, ⟨by decide +kernel, by decide +kernel⟩, by decide⟩
abbrev mX9_canHold : MI := (yX9_canHold, cX9_canHold, 2, (some .boolean))
theorem mX9_canHold_ok : mi_ok mX9_canHold := ⟨by decide +kernel, w_863, w_10, ⟨by decide +kernel, by decide +kernel⟩, by decide⟩
abbrev mX9_holds : MI := (yX9_holds, cX9_holds, 3, none)
theorem mX9_holds_ok : mi_ok mX9_holds := ⟨by decide +kernel, w_867, w_10, ⟨by decide +kernel, by decide +kernel⟩, by decide⟩
abbrev mX9_ages : MI := (yX9_ages, cX9_ages, 3, none)
theorem mX9_ages_ok : mi_ok mX9_ages := ⟨by decide +kernel, w_871, w_10, ⟨by decide +kernel, by decide +kernel⟩, by decide⟩
abbrev mX9_whenOf : MI := (yX9_whenOf, cX9_whenOf, 3, (some .int))
theorem mX9_whenOf_ok : mi_ok mX9_whenOf := ⟨by decide +kernel, w_875, w_10, ⟨by decide +kernel, by decide +kernel⟩, by decide⟩
abbrev mX9_forgets : MI := (yX9_forgets, cX9_forgets, 4, none)
theorem mX9_forgets_ok : mi_ok mX9_forgets := ⟨by decide +kernel, w_879, w_10, ⟨by decide +kernel, by decide +kernel⟩, by decide⟩
abbrev mX9_flowOf : MI := (yX9_flowOf, cX9_flowOf, 3, (some .int))
theorem mX9_flowOf_ok : mi_ok mX9_flowOf := ⟨by decide +kernel, w_883, w_10, ⟨by decide +kernel, by decide +kernel⟩, by decide⟩
abbrev mX9_toOf : MI := (yX9_toOf, cX9_toOf, 3, (some .int))
theorem mX9_toOf_ok : mi_ok mX9_toOf := ⟨by decide +kernel, w_887, w_10, ⟨by decide +kernel, by decide +kernel⟩, by decide⟩
abbrev mX9_fits : MI := (yX9_fits, cX9_fits, 2, none)
theorem mX9_fits_ok : mi_ok mX9_fits := ⟨by decide +kernel, w_891, w_10, ⟨by decide +kernel, by decide +kernel⟩, by decide⟩
abbrev mX9_eldest : MI := (yX9_eldest, cX9_eldest, 5, (some .int))
theorem mX9_eldest_ok : mi_ok mX9_eldest := ⟨by decide +kernel, w_895, w_10, ⟨by decide +kernel, by decide +kernel⟩, by decide⟩
abbrev mX9_tick : MI := (yX9_tick, cX9_tick, 2, (some .int))
theorem mX9_tick_ok : mi_ok mX9_tick := ⟨by decide +kernel, w_899, w_10, ⟨by decide +kernel, by decide +kernel⟩, by decide⟩
abbrev mX9_ticks : MI := (yX9_ticks, cX9_ticks, 2, (some .int))
theorem mX9_ticks_ok : mi_ok mX9_ticks := ⟨by decide +kernel, w_903, w_10, ⟨by decide +kernel, by decide +kernel⟩, by decide⟩
abbrev mX9_pack : MI := (yX9_pack, cX9_pack, 3, (some .int))
theorem mX9_pack_ok : mi_ok mX9_pack := ⟨by decide +kernel, w_907, w_10, ⟨by decide +kernel, by decide +kernel⟩, by decide⟩
abbrev mX9_isFlow : MI := (yX9_isFlow, cX9_isFlow, 1, (some .boolean))
theorem mX9_isFlow_ok : mi_ok mX9_isFlow := ⟨by decide +kernel, w_910, w_10, ⟨by decide +kernel, by decide +kernel⟩, by decide⟩
abbrev mX9_packs : MI := (yX9_packs, cX9_packs, 5, (some .int))
theorem mX9_packs_ok : mi_ok mX9_packs := ⟨by decide +kernel, w_914, w_10, ⟨by decide +kernel, by decide +kernel⟩, by decide⟩
abbrev mX9_goesTo : MI := (yX9_goesTo, cX9_goesTo, 4, (some .int))
theorem mX9_goesTo_ok : mi_ok mX9_goesTo := ⟨by decide +kernel, w_918, w_10, ⟨by decide +kernel, by decide +kernel⟩, by decide⟩
abbrev mX9_placeOf : MI := (yX9_placeOf, cX9_placeOf, 4, (some .int))
theorem mX9_placeOf_ok : mi_ok mX9_placeOf := ⟨by decide +kernel, w_922, w_10, ⟨by decide +kernel, by decide +kernel⟩, by decide⟩
abbrev mX9_laysGate : MI := (yX9_laysGate, cX9_laysGate, 2, none)
theorem mX9_laysGate_ok : mi_ok mX9_laysGate := ⟨by decide +kernel, w_926, w_10, ⟨by decide +kernel, by decide +kernel⟩, by decide⟩
abbrev mX9_sees : MI := (yX9_sees, cX9_sees, 3, none)
theorem mX9_sees_ok : mi_ok mX9_sees := ⟨by decide +kernel, w_930, w_10, ⟨by decide +kernel, by decide +kernel⟩, by decide⟩
abbrev mX9_lays : MI := (yX9_lays, cX9_lays, 5, none)
theorem mX9_lays_ok : mi_ok mX9_lays := ⟨by decide +kernel, w_934, w_10, ⟨by decide +kernel, by decide +kernel⟩, by decide⟩
abbrev mX9_greatest : MI := (yX9_greatest, cX9_greatest, 3, (some .int))
theorem mX9_greatest_ok : mi_ok mX9_greatest := ⟨by decide +kernel, w_938, w_10, ⟨by decide +kernel, by decide +kernel⟩, by decide⟩
abbrev mX9_takes : MI := (yX9_takes, cX9_takes, 4, none)
theorem mX9_takes_ok : mi_ok mX9_takes := ⟨by decide +kernel, w_942, w_10, ⟨by decide +kernel, by decide +kernel⟩, by decide⟩
abbrev mX9_offset : MI := (yX9_offset, cX9_offset, 3, (some .int))
theorem mX9_offset_ok : mi_ok mX9_offset := ⟨by decide +kernel, w_946, w_10, ⟨by decide +kernel, by decide +kernel⟩, by decide⟩
abbrev mX9_mix : MI := (yX9_mix, cX9_mix, 3, (some .int))
theorem mX9_mix_ok : mi_ok mX9_mix := ⟨by decide +kernel, w_950, w_10, ⟨by decide +kernel, by decide +kernel⟩, by decide⟩
abbrev mX9_skip : MI := (yX9_skip, cX9_skip, 3, (some .int))
theorem mX9_skip_ok : mi_ok mX9_skip := ⟨by decide +kernel, w_955, w_10, ⟨by decide +kernel, by decide +kernel⟩, by decide⟩
abbrev mX9_slotOf : MI := (yX9_slotOf, cX9_slotOf, 2, (some .int))
theorem mX9_slotOf_ok : mi_ok mX9_slotOf := ⟨by decide +kernel, w_960, w_10, ⟨by decide +kernel, by decide +kernel⟩, by decide⟩
abbrev mX9_keep : MI := (yX9_keep, cX9_keep, 3, (some .boolean))
theorem mX9_keep_ok : mi_ok mX9_keep := ⟨by decide +kernel, w_965, w_10, ⟨by decide +kernel, by decide +kernel⟩, by decide⟩
abbrev mX9_feed : MI := (yX9_feed, cX9_feed, 6, (some .int))
theorem mX9_feed_ok : mi_ok mX9_feed := ⟨by decide +kernel, w_969, w_10, ⟨by decide +kernel, by decide +kernel⟩, by decide⟩
abbrev mX9_four : MI := (yX9_four, cX9_four, 3, none)
theorem mX9_four_ok : mi_ok mX9_four := ⟨by decide +kernel, w_973, w_10, ⟨by decide +kernel, by decide +kernel⟩, by decide⟩
abbrev mX9_end : MI := (yX9_end, cX9_end, 2, (some .boolean))
theorem mX9_end_ok : mi_ok mX9_end := ⟨by decide +kernel, w_977, w_10, ⟨by decide +kernel, by decide +kernel⟩, by decide⟩
abbrev mX9_tell : MI := (yX9_tell, cX9_tell, 3, (some .int))
theorem mX9_tell_ok : mi_ok mX9_tell := ⟨by decide +kernel, w_981, w_10, ⟨by decide +kernel, by decide +kernel⟩, by decide⟩
abbrev mX9_readText : MI := (yX9_readText, cX9_readText, 1, (some .boolean))
theorem mX9_readText_ok : mi_ok mX9_readText := ⟨by decide +kernel, w_985, w_10, ⟨by decide +kernel, by decide +kernel⟩, by decide⟩
abbrev mX9_here : MI := (yX9_here, cX9_here, 1, (some .int))
theorem mX9_here_ok : mi_ok mX9_here := ⟨by decide +kernel, w_989, w_10, ⟨by decide +kernel, by decide +kernel⟩, by decide⟩
abbrev mX9_readStatement : MI := (yX9_readStatement, cX9_readStatement, 4, (some .boolean))
theorem mX9_readStatement_ok : mi_ok mX9_readStatement := ⟨by decide +kernel, w_993, w_10, ⟨by decide +kernel, by decide +kernel⟩, by decide⟩
abbrev mX9_isWord : MI := (yX9_isWord, cX9_isWord, 1, (some .boolean))
theorem mX9_isWord_ok : mi_ok mX9_isWord := ⟨by decide +kernel, w_997, w_10, ⟨by decide +kernel, by decide +kernel⟩, by decide⟩
abbrev mX9_fails : MI := (yX9_fails, cX9_fails, 3, (some .boolean))
theorem mX9_fails_ok : mi_ok mX9_fails := ⟨by decide +kernel, w_1001, w_10, ⟨by decide +kernel, by decide +kernel⟩, by decide⟩
abbrev mX9_readWord : MI := (yX9_readWord, cX9_readWord, 4, (some .long))
theorem mX9_readWord_ok : mi_ok mX9_readWord := ⟨by decide +kernel, w_1005, w_10, ⟨by decide +kernel, by decide +kernel⟩, by decide⟩
abbrev mX9_readSize : MI := (yX9_readSize, cX9_readSize, 1, (some .boolean))
theorem mX9_readSize_ok : mi_ok mX9_readSize := ⟨by decide +kernel, w_1013, w_10, ⟨by decide +kernel, by decide +kernel⟩, by decide⟩
abbrev mX9_number : MI := (yX9_number, cX9_number, 3, (some .boolean))
theorem mX9_number_ok : mi_ok mX9_number := ⟨by decide +kernel, w_1017, w_10, ⟨by decide +kernel, by decide +kernel⟩, by decide⟩
abbrev mX9_ends : MI := (yX9_ends, cX9_ends, 1, (some .boolean))
theorem mX9_ends_ok : mi_ok mX9_ends := ⟨by decide +kernel, w_1021, w_10, ⟨by decide +kernel, by decide +kernel⟩, by decide⟩
abbrev mX9_readBack : MI := (yX9_readBack, cX9_readBack, 3, (some .boolean))
theorem mX9_readBack_ok : mi_ok mX9_readBack := ⟨by decide +kernel, w_1026, w_10, ⟨by decide +kernel, by decide +kernel⟩, by decide⟩
abbrev mX9_readWeigh : MI := (yX9_readWeigh, cX9_readWeigh, 2, (some .boolean))
theorem mX9_readWeigh_ok : mi_ok mX9_readWeigh := ⟨by decide +kernel, w_1031, w_10, ⟨by decide +kernel, by decide +kernel⟩, by decide⟩
abbrev mX9_readSee : MI := (yX9_readSee, cX9_readSee, 5, (some .boolean))
theorem mX9_readSee_ok : mi_ok mX9_readSee := ⟨by decide +kernel, w_1036, w_10, ⟨by decide +kernel, by decide +kernel⟩, by decide⟩
abbrev mX9_gates : MI := (yX9_gates, cX9_gates, 2, (some .boolean))
theorem mX9_gates_ok : mi_ok mX9_gates := ⟨by decide +kernel, w_1040, w_10, ⟨by decide +kernel, by decide +kernel⟩, by decide⟩
abbrev mX9_readTick : MI := (yX9_readTick, cX9_readTick, 1, (some .boolean))
theorem mX9_readTick_ok : mi_ok mX9_readTick := ⟨by decide +kernel, w_1049, w_10, ⟨by decide +kernel, by decide +kernel⟩, by decide⟩
abbrev mX9_readHold : MI := (yX9_readHold, cX9_readHold, 2, (some .boolean))
theorem mX9_readHold_ok : mi_ok mX9_readHold := ⟨by decide +kernel, w_1055, w_10, ⟨by decide +kernel, by decide +kernel⟩, by decide⟩
abbrev mX9_readPack : MI := (yX9_readPack, cX9_readPack, 2, (some .boolean))
theorem mX9_readPack_ok : mi_ok mX9_readPack := ⟨by decide +kernel, w_1060, w_10, ⟨by decide +kernel, by decide +kernel⟩, by decide⟩
abbrev mX9_fault : MI := (yX9_fault, cX9_fault, 1, (some .int))
theorem mX9_fault_ok : mi_ok mX9_fault := ⟨by decide +kernel, w_1064, w_10, ⟨by decide +kernel, by decide +kernel⟩, by decide⟩
abbrev mX9_count : MI := (yX9_count, cX9_count, 2, (some .int))
theorem mX9_count_ok : mi_ok mX9_count := ⟨by decide +kernel, w_1068, w_10, ⟨by decide +kernel, by decide +kernel⟩, by decide⟩
abbrev mX9_of : MI := (yX9_of, cX9_of, 3, (some .int))
theorem mX9_of_ok : mi_ok mX9_of := ⟨by decide +kernel, w_1072, w_10, ⟨by decide +kernel, by decide +kernel⟩, by decide⟩
abbrev mX9_slot : MI := (yX9_slot, cX9_slot, 3, (some .int))
theorem mX9_slot_ok : mi_ok mX9_slot := ⟨by decide +kernel, w_1076, w_10, ⟨by decide +kernel, by decide +kernel⟩, by decide⟩
abbrev mX9_isSlot : MI := (yX9_isSlot, cX9_isSlot, 2, (some .boolean))
theorem mX9_isSlot_ok : mi_ok mX9_isSlot := ⟨by decide +kernel, w_1080, w_10, ⟨by decide +kernel, by decide +kernel⟩, by decide⟩
abbrev mX9_table : MI := (yX9_table, cX9_table, 3, (some .int))
theorem mX9_table_ok : mi_ok mX9_table := ⟨by decide +kernel, w_1084, w_10, ⟨by decide +kernel, by decide +kernel⟩, by decide⟩
abbrev mX9_share : MI := (yX9_share, cX9_share, 3, (some .int))
theorem mX9_share_ok : mi_ok mX9_share := ⟨by decide +kernel, w_1088, w_10, ⟨by decide +kernel, by decide +kernel⟩, by decide⟩
abbrev mX9_sharedBy : MI := (yX9_sharedBy, cX9_sharedBy, 5, (some .int))
theorem mX9_sharedBy_ok : mi_ok mX9_sharedBy := ⟨by decide +kernel, w_1092, w_10, ⟨by decide +kernel, by decide +kernel⟩, by decide⟩
abbrev mX9_shareBits : MI := (yX9_shareBits, cX9_shareBits, 4, (some .int))
theorem mX9_shareBits_ok : mi_ok mX9_shareBits := ⟨by decide +kernel, w_1096, w_10, ⟨by decide +kernel, by decide +kernel⟩, by decide⟩
abbrev mJxf58ca_floatToIntBits_5c35a : MI := (yJxf58ca_floatToIntBits_5c35a, cJxf58ca_floatToIntBits_5c35a, 1, (some .int))
theorem mJxf58ca_floatToIntBits_5c35a_ok : mi_ok mJxf58ca_floatToIntBits_5c35a := ⟨by decide +kernel, w_1099, w_23, ⟨by decide +kernel, by decide +kernel⟩, by decide⟩
abbrev mJxf58ca_isNaN_12338 : MI := (yJxf58ca_isNaN_12338, cJxf58ca_isNaN_12338, 1, (some .boolean))
theorem mJxf58ca_isNaN_12338_ok : mi_ok mJxf58ca_isNaN_12338 := ⟨by decide +kernel, w_1102, w_23, ⟨by decide +kernel, by decide +kernel⟩, by decide⟩
abbrev mX9_uneven : MI := (yX9_uneven, cX9_uneven, 2, (some .int))
theorem mX9_uneven_ok : mi_ok mX9_uneven := ⟨by decide +kernel, w_1110, w_10, ⟨by decide +kernel, by decide +kernel⟩, by decide⟩
abbrev mX9_unevenBy : MI := (yX9_unevenBy, cX9_unevenBy, 6, (some .int))
theorem mX9_unevenBy_ok : mi_ok mX9_unevenBy := ⟨by decide +kernel, w_1114, w_10, ⟨by decide +kernel, by decide +kernel⟩, by decide⟩
abbrev mX9_evenest : MI := (yX9_evenest, cX9_evenest, 6, (some .int))
theorem mX9_evenest_ok : mi_ok mX9_evenest := ⟨by decide +kernel, w_1118, w_10, ⟨by decide +kernel, by decide +kernel⟩, by decide⟩
abbrev mX9_changed : MI := (yX9_changed, cX9_changed, 6, (some .int))
theorem mX9_changed_ok : mi_ok mX9_changed := ⟨by decide +kernel, w_1122, w_10, ⟨by decide +kernel, by decide +kernel⟩, by decide⟩
abbrev mX9_alike : MI := (yX9_alike, cX9_alike, 5, (some .int))
theorem mX9_alike_ok : mi_ok mX9_alike := ⟨by decide +kernel, w_1126, w_10, ⟨by decide +kernel, by decide +kernel⟩, by decide⟩
abbrev mX9_copiesLaid : MI := (yX9_copiesLaid, cX9_copiesLaid, 2, none)
theorem mX9_copiesLaid_ok : mi_ok mX9_copiesLaid := ⟨by decide +kernel, w_1130, w_10, ⟨by decide +kernel, by decide +kernel⟩, by decide⟩
abbrev mX9_were : MI := (yX9_were, cX9_were, 5, (some .int))
theorem mX9_were_ok : mi_ok mX9_were := ⟨by decide +kernel, w_1134, w_10, ⟨by decide +kernel, by decide +kernel⟩, by decide⟩
abbrev mX9_wereBy : MI := (yX9_wereBy, cX9_wereBy, 7, (some .int))
theorem mX9_wereBy_ok : mi_ok mX9_wereBy := ⟨by decide +kernel, w_1138, w_10, ⟨by decide +kernel, by decide +kernel⟩, by decide⟩
abbrev mX9_roughest : MI := (yX9_roughest, cX9_roughest, 6, (some .int))
theorem mX9_roughest_ok : mi_ok mX9_roughest := ⟨by decide +kernel, w_1142, w_10, ⟨by decide +kernel, by decide +kernel⟩, by decide⟩
abbrev mX9_flow : MI := (yX9_flow, cX9_flow, 2, (some .int))
theorem mX9_flow_ok : mi_ok mX9_flow := ⟨by decide +kernel, w_1146, w_10, ⟨by decide +kernel, by decide +kernel⟩, by decide⟩
abbrev mX9_remembers : MI := (yX9_remembers, cX9_remembers, 5, (some .int))
theorem mX9_remembers_ok : mi_ok mX9_remembers := ⟨by decide +kernel, w_1150, w_10, ⟨by decide +kernel, by decide +kernel⟩, by decide⟩
abbrev mX9_flows : MI := (yX9_flows, cX9_flows, 5, (some .int))
theorem mX9_flows_ok : mi_ok mX9_flows := ⟨by decide +kernel, w_1154, w_10, ⟨by decide +kernel, by decide +kernel⟩, by decide⟩
abbrev mX9_flowAt : MI := (yX9_flowAt, cX9_flowAt, 7, (some .int))
theorem mX9_flowAt_ok : mi_ok mX9_flowAt := ⟨by decide +kernel, w_1158, w_10, ⟨by decide +kernel, by decide +kernel⟩, by decide⟩
abbrev mX9_astray : MI := (yX9_astray, cX9_astray, 5, (some .int))
theorem mX9_astray_ok : mi_ok mX9_astray := ⟨by decide +kernel, w_1162, w_10, ⟨by decide +kernel, by decide +kernel⟩, by decide⟩
abbrev mX9_idle : MI := (yX9_idle, cX9_idle, 5, (some .int))
theorem mX9_idle_ok : mi_ok mX9_idle := ⟨by decide +kernel, w_1166, w_10, ⟨by decide +kernel, by decide +kernel⟩, by decide⟩
theorem in_RX1 : ∀ w ∈ u_ws RX1 TX1 4, w ∈ wtab := by
  intro w hw
  obtain ⟨k, hk, rfl⟩ := List.mem_map.mp hw
  have hk := List.mem_range.mp hk
  match k, hk with
  | 0, _ => exact w_122
  | 1, _ => exact w_124
  | 2, _ => exact w_126
  | 3, _ => exact w_128
  | k + 4, hk => exact absurd hk (by omega)
theorem in_RX2 : ∀ w ∈ u_ws RX2 TX2 4, w ∈ wtab := by
  intro w hw
  obtain ⟨k, hk, rfl⟩ := List.mem_map.mp hw
  have hk := List.mem_range.mp hk
  match k, hk with
  | 0, _ => exact w_102
  | 1, _ => exact w_104
  | 2, _ => exact w_106
  | 3, _ => exact w_108
  | k + 4, hk => exact absurd hk (by omega)
theorem in_RX3 : ∀ w ∈ u_ws RX3 TX3 5, w ∈ wtab := by
  intro w hw
  obtain ⟨k, hk, rfl⟩ := List.mem_map.mp hw
  have hk := List.mem_range.mp hk
  match k, hk with
  | 0, _ => exact w_63
  | 1, _ => exact w_65
  | 2, _ => exact w_67
  | 3, _ => exact w_69
  | 4, _ => exact w_71
  | k + 5, hk => exact absurd hk (by omega)
theorem in_RX4 : ∀ w ∈ u_ws RX4 TX4 2, w ∈ wtab := by
  intro w hw
  obtain ⟨k, hk, rfl⟩ := List.mem_map.mp hw
  have hk := List.mem_range.mp hk
  match k, hk with
  | 0, _ => exact w_43
  | 1, _ => exact w_45
  | k + 2, hk => exact absurd hk (by omega)
theorem in_RX5 : ∀ w ∈ u_ws RX5 TX5 7, w ∈ wtab := by
  intro w hw
  obtain ⟨k, hk, rfl⟩ := List.mem_map.mp hw
  have hk := List.mem_range.mp hk
  match k, hk with
  | 0, _ => exact w_189
  | 1, _ => exact w_191
  | 2, _ => exact w_193
  | 3, _ => exact w_195
  | 4, _ => exact w_197
  | 5, _ => exact w_199
  | 6, _ => exact w_201
  | k + 7, hk => exact absurd hk (by omega)
theorem in_RX7 : ∀ w ∈ u_ws RX7 TX7 9, w ∈ wtab := by
  intro w hw
  obtain ⟨k, hk, rfl⟩ := List.mem_map.mp hw
  have hk := List.mem_range.mp hk
  match k, hk with
  | 0, _ => exact w_152
  | 1, _ => exact w_154
  | 2, _ => exact w_156
  | 3, _ => exact w_158
  | 4, _ => exact w_160
  | 5, _ => exact w_162
  | 6, _ => exact w_164
  | 7, _ => exact w_166
  | 8, _ => exact w_168
  | k + 9, hk => exact absurd hk (by omega)
theorem in_RX8 : ∀ w ∈ u_ws RX8 TX8 5, w ∈ wtab := by
  intro w hw
  obtain ⟨k, hk, rfl⟩ := List.mem_map.mp hw
  have hk := List.mem_range.mp hk
  match k, hk with
  | 0, _ => exact w_209
  | 1, _ => exact w_211
  | 2, _ => exact w_213
  | 3, _ => exact w_215
  | 4, _ => exact w_217
  | k + 5, hk => exact absurd hk (by omega)
theorem in_RX9 : ∀ w ∈ u_ws RX9 TX9 17, w ∈ wtab := by
  intro w hw
  obtain ⟨k, hk, rfl⟩ := List.mem_map.mp hw
  have hk := List.mem_range.mp hk
  match k, hk with
  | 0, _ => exact w_768
  | 1, _ => exact w_770
  | 2, _ => exact w_772
  | 3, _ => exact w_774
  | 4, _ => exact w_776
  | 5, _ => exact w_778
  | 6, _ => exact w_780
  | 7, _ => exact w_782
  | 8, _ => exact w_784
  | 9, _ => exact w_786
  | 10, _ => exact w_788
  | 11, _ => exact w_790
  | 12, _ => exact w_792
  | 13, _ => exact w_794
  | 14, _ => exact w_796
  | 15, _ => exact w_798
  | 16, _ => exact w_800
  | k + 17, hk => exact absurd hk (by omega)
theorem fl_X4_9 : fl_ok RX4 9 3 0 (.array .int) true := ⟨_, _, _, tyX4, rfl, by decide, w_38, in_RX4, tyX4_ok, nmX4, rfl, rfl, rfl⟩
theorem fl_X5_111 : fl_ok RX5 111 3 0 (.array .int) true := ⟨_, _, _, tyX4, rfl, by decide, w_39, in_RX4, tyX4_ok, nmX4, rfl, rfl, rfl⟩
theorem fl_X4_15 : fl_ok RX4 15 3 1 .int false := ⟨_, _, _, tyX4, rfl, by decide, w_40, in_RX4, tyX4_ok, nmX4, rfl, rfl, rfl⟩
theorem fl_X8_44 : fl_ok RX8 44 3 1 .int false := ⟨_, _, _, tyX4, rfl, by decide, w_41, in_RX4, tyX4_ok, nmX4, rfl, rfl, rfl⟩
theorem fl_X5_107 : fl_ok RX5 107 3 1 .int false := ⟨_, _, _, tyX4, rfl, by decide, w_42, in_RX4, tyX4_ok, nmX4, rfl, rfl, rfl⟩
theorem fl_X3_9 : fl_ok RX3 9 2 0 (.array .int) true := ⟨_, _, _, tyX3, rfl, by decide, w_55, in_RX3, tyX3_ok, nmX3, rfl, rfl, rfl⟩
theorem fl_X7_86 : fl_ok RX7 86 2 0 (.array .int) true := ⟨_, _, _, tyX3, rfl, by decide, w_56, in_RX3, tyX3_ok, nmX3, rfl, rfl, rfl⟩
theorem fl_X8_195 : fl_ok RX8 195 2 0 (.array .int) true := ⟨_, _, _, tyX3, rfl, by decide, w_57, in_RX3, tyX3_ok, nmX3, rfl, rfl, rfl⟩
theorem fl_X3_15 : fl_ok RX3 15 2 1 (.array .int) true := ⟨_, _, _, tyX3, rfl, by decide, w_58, in_RX3, tyX3_ok, nmX3, rfl, rfl, rfl⟩
theorem fl_X8_219 : fl_ok RX8 219 2 1 (.array .int) true := ⟨_, _, _, tyX3, rfl, by decide, w_59, in_RX3, tyX3_ok, nmX3, rfl, rfl, rfl⟩
theorem fl_X3_18 : fl_ok RX3 18 2 2 (.array .int) true := ⟨_, _, _, tyX3, rfl, by decide, w_60, in_RX3, tyX3_ok, nmX3, rfl, rfl, rfl⟩
theorem fl_X3_21 : fl_ok RX3 21 2 3 (.array .int) true := ⟨_, _, _, tyX3, rfl, by decide, w_61, in_RX3, tyX3_ok, nmX3, rfl, rfl, rfl⟩
theorem fl_X3_24 : fl_ok RX3 24 2 4 (.array .int) true := ⟨_, _, _, tyX3, rfl, by decide, w_62, in_RX3, tyX3_ok, nmX3, rfl, rfl, rfl⟩
theorem fl_X2_9 : fl_ok RX2 9 1 0 (.array .int) true := ⟨_, _, _, tyX2, rfl, by decide, w_93, in_RX2, tyX2_ok, nmX2, rfl, rfl, rfl⟩
theorem fl_X8_251 : fl_ok RX8 251 1 0 (.array .int) true := ⟨_, _, _, tyX2, rfl, by decide, w_94, in_RX2, tyX2_ok, nmX2, rfl, rfl, rfl⟩
theorem fl_X2_15 : fl_ok RX2 15 1 1 (.array .int) true := ⟨_, _, _, tyX2, rfl, by decide, w_95, in_RX2, tyX2_ok, nmX2, rfl, rfl, rfl⟩
theorem fl_X1_43 : fl_ok RX1 43 1 1 (.array .int) true := ⟨_, _, _, tyX2, rfl, by decide, w_96, in_RX2, tyX2_ok, nmX2, rfl, rfl, rfl⟩
theorem fl_X8_239 : fl_ok RX8 239 1 1 (.array .int) true := ⟨_, _, _, tyX2, rfl, by decide, w_97, in_RX2, tyX2_ok, nmX2, rfl, rfl, rfl⟩
theorem fl_X2_18 : fl_ok RX2 18 1 2 (.array .int) true := ⟨_, _, _, tyX2, rfl, by decide, w_98, in_RX2, tyX2_ok, nmX2, rfl, rfl, rfl⟩
theorem fl_X8_242 : fl_ok RX8 242 1 2 (.array .int) true := ⟨_, _, _, tyX2, rfl, by decide, w_99, in_RX2, tyX2_ok, nmX2, rfl, rfl, rfl⟩
theorem fl_X2_21 : fl_ok RX2 21 1 3 .int false := ⟨_, _, _, tyX2, rfl, by decide, w_100, in_RX2, tyX2_ok, nmX2, rfl, rfl, rfl⟩
theorem fl_X8_245 : fl_ok RX8 245 1 3 .int false := ⟨_, _, _, tyX2, rfl, by decide, w_101, in_RX2, tyX2_ok, nmX2, rfl, rfl, rfl⟩
theorem fl_X1_9 : fl_ok RX1 9 0 0 (.array .int) true := ⟨_, _, _, tyX1, rfl, by decide, w_111, in_RX1, tyX1_ok, nmX1, rfl, rfl, rfl⟩
theorem fl_X7_63 : fl_ok RX7 63 0 0 (.array .int) true := ⟨_, _, _, tyX1, rfl, by decide, w_112, in_RX1, tyX1_ok, nmX1, rfl, rfl, rfl⟩
theorem fl_X8_175 : fl_ok RX8 175 0 0 (.array .int) true := ⟨_, _, _, tyX1, rfl, by decide, w_113, in_RX1, tyX1_ok, nmX1, rfl, rfl, rfl⟩
theorem fl_X1_15 : fl_ok RX1 15 0 1 (.array .int) true := ⟨_, _, _, tyX1, rfl, by decide, w_114, in_RX1, tyX1_ok, nmX1, rfl, rfl, rfl⟩
theorem fl_X8_151 : fl_ok RX8 151 0 1 (.array .int) true := ⟨_, _, _, tyX1, rfl, by decide, w_115, in_RX1, tyX1_ok, nmX1, rfl, rfl, rfl⟩
theorem fl_X1_21 : fl_ok RX1 21 0 2 (.object "FlowGates$Memory") true := ⟨_, _, _, tyX1, rfl, by decide, w_116, in_RX1, tyX1_ok, nmX1, rfl, rfl, rfl⟩
theorem fl_X7_66 : fl_ok RX7 66 0 2 (.object "FlowGates$Memory") true := ⟨_, _, _, tyX1, rfl, by decide, w_117, in_RX1, tyX1_ok, nmX1, rfl, rfl, rfl⟩
theorem fl_X8_229 : fl_ok RX8 229 0 2 (.object "FlowGates$Memory") true := ⟨_, _, _, tyX1, rfl, by decide, w_118, in_RX1, tyX1_ok, nmX1, rfl, rfl, rfl⟩
theorem fl_X1_25 : fl_ok RX1 25 0 3 .boolean false := ⟨_, _, _, tyX1, rfl, by decide, w_119, in_RX1, tyX1_ok, nmX1, rfl, rfl, rfl⟩
theorem fl_X7_55 : fl_ok RX7 55 0 3 .boolean false := ⟨_, _, _, tyX1, rfl, by decide, w_120, in_RX1, tyX1_ok, nmX1, rfl, rfl, rfl⟩
theorem fl_X8_164 : fl_ok RX8 164 0 3 .boolean false := ⟨_, _, _, tyX1, rfl, by decide, w_121, in_RX1, tyX1_ok, nmX1, rfl, rfl, rfl⟩
theorem fl_X7_9 : fl_ok RX7 9 5 0 (.array .int) true := ⟨_, _, _, tyX7, rfl, by decide, w_131, in_RX7, tyX7_ok, nmX7, rfl, rfl, rfl⟩
theorem fl_X3_48 : fl_ok RX3 48 5 0 (.array .int) true := ⟨_, _, _, tyX7, rfl, by decide, w_132, in_RX7, tyX7_ok, nmX7, rfl, rfl, rfl⟩
theorem fl_X8_178 : fl_ok RX8 178 5 0 (.array .int) true := ⟨_, _, _, tyX7, rfl, by decide, w_133, in_RX7, tyX7_ok, nmX7, rfl, rfl, rfl⟩
theorem fl_X7_15 : fl_ok RX7 15 5 1 (.array .int) true := ⟨_, _, _, tyX7, rfl, by decide, w_134, in_RX7, tyX7_ok, nmX7, rfl, rfl, rfl⟩
theorem fl_X3_41 : fl_ok RX3 41 5 1 (.array .int) true := ⟨_, _, _, tyX7, rfl, by decide, w_135, in_RX7, tyX7_ok, nmX7, rfl, rfl, rfl⟩
theorem fl_X8_109 : fl_ok RX8 109 5 1 (.array .int) true := ⟨_, _, _, tyX7, rfl, by decide, w_136, in_RX7, tyX7_ok, nmX7, rfl, rfl, rfl⟩
theorem fl_X7_21 : fl_ok RX7 21 5 2 (.array (.object "FlowGates$Gate")) true := ⟨_, _, _, tyX7, rfl, by decide, w_137, in_RX7, tyX7_ok, nmX7, rfl, rfl, rfl⟩
theorem fl_X8_147 : fl_ok RX8 147 5 2 (.array (.object "FlowGates$Gate")) true := ⟨_, _, _, tyX7, rfl, by decide, w_138, in_RX7, tyX7_ok, nmX7, rfl, rfl, rfl⟩
theorem fl_X7_25 : fl_ok RX7 25 5 3 .int false := ⟨_, _, _, tyX7, rfl, by decide, w_139, in_RX7, tyX7_ok, nmX7, rfl, rfl, rfl⟩
theorem fl_X8_82 : fl_ok RX8 82 5 3 .int false := ⟨_, _, _, tyX7, rfl, by decide, w_140, in_RX7, tyX7_ok, nmX7, rfl, rfl, rfl⟩
theorem fl_X7_29 : fl_ok RX7 29 5 4 .int false := ⟨_, _, _, tyX7, rfl, by decide, w_141, in_RX7, tyX7_ok, nmX7, rfl, rfl, rfl⟩
theorem fl_X3_31 : fl_ok RX3 31 5 4 .int false := ⟨_, _, _, tyX7, rfl, by decide, w_142, in_RX7, tyX7_ok, nmX7, rfl, rfl, rfl⟩
theorem fl_X5_55 : fl_ok RX5 55 5 4 .int false := ⟨_, _, _, tyX7, rfl, by decide, w_143, in_RX7, tyX7_ok, nmX7, rfl, rfl, rfl⟩
theorem fl_X8_99 : fl_ok RX8 99 5 4 .int false := ⟨_, _, _, tyX7, rfl, by decide, w_144, in_RX7, tyX7_ok, nmX7, rfl, rfl, rfl⟩
theorem fl_X7_32 : fl_ok RX7 32 5 5 .int false := ⟨_, _, _, tyX7, rfl, by decide, w_145, in_RX7, tyX7_ok, nmX7, rfl, rfl, rfl⟩
theorem fl_X8_137 : fl_ok RX8 137 5 5 .int false := ⟨_, _, _, tyX7, rfl, by decide, w_146, in_RX7, tyX7_ok, nmX7, rfl, rfl, rfl⟩
theorem fl_X7_35 : fl_ok RX7 35 5 6 .int false := ⟨_, _, _, tyX7, rfl, by decide, w_147, in_RX7, tyX7_ok, nmX7, rfl, rfl, rfl⟩
theorem fl_X8_122 : fl_ok RX8 122 5 6 .int false := ⟨_, _, _, tyX7, rfl, by decide, w_148, in_RX7, tyX7_ok, nmX7, rfl, rfl, rfl⟩
theorem fl_X7_38 : fl_ok RX7 38 5 7 .int false := ⟨_, _, _, tyX7, rfl, by decide, w_149, in_RX7, tyX7_ok, nmX7, rfl, rfl, rfl⟩
theorem fl_X8_128 : fl_ok RX8 128 5 7 .int false := ⟨_, _, _, tyX7, rfl, by decide, w_150, in_RX7, tyX7_ok, nmX7, rfl, rfl, rfl⟩
theorem fl_X7_41 : fl_ok RX7 41 5 8 (.object "FlowGates$Tables") true := ⟨_, _, _, tyX7, rfl, by decide, w_151, in_RX7, tyX7_ok, nmX7, rfl, rfl, rfl⟩
theorem fl_X5_9 : fl_ok RX5 9 4 0 .int false := ⟨_, _, _, tyX5, rfl, by decide, w_179, in_RX5, tyX5_ok, nmX5, rfl, rfl, rfl⟩
theorem fl_X8_79 : fl_ok RX8 79 4 0 .int false := ⟨_, _, _, tyX5, rfl, by decide, w_180, in_RX5, tyX5_ok, nmX5, rfl, rfl, rfl⟩
theorem fl_X5_21 : fl_ok RX5 21 4 1 (.object "FlowGates$Verb") false := ⟨_, _, _, tyX5, rfl, by decide, w_181, in_RX5, tyX5_ok, nmX5, rfl, rfl, rfl⟩
theorem fl_X8_67 : fl_ok RX8 67 4 1 (.object "FlowGates$Verb") false := ⟨_, _, _, tyX5, rfl, by decide, w_182, in_RX5, tyX5_ok, nmX5, rfl, rfl, rfl⟩
theorem fl_X5_24 : fl_ok RX5 24 4 2 (.array .int) true := ⟨_, _, _, tyX5, rfl, by decide, w_183, in_RX5, tyX5_ok, nmX5, rfl, rfl, rfl⟩
theorem fl_X8_71 : fl_ok RX8 71 4 2 (.array .int) true := ⟨_, _, _, tyX5, rfl, by decide, w_184, in_RX5, tyX5_ok, nmX5, rfl, rfl, rfl⟩
theorem fl_X5_37 : fl_ok RX5 37 4 3 (.object "FlowGates$Tape") true := ⟨_, _, _, tyX5, rfl, by decide, w_185, in_RX5, tyX5_ok, nmX5, rfl, rfl, rfl⟩
theorem fl_X5_28 : fl_ok RX5 28 4 4 .int false := ⟨_, _, _, tyX5, rfl, by decide, w_186, in_RX5, tyX5_ok, nmX5, rfl, rfl, rfl⟩
theorem fl_X5_31 : fl_ok RX5 31 4 5 .int false := ⟨_, _, _, tyX5, rfl, by decide, w_187, in_RX5, tyX5_ok, nmX5, rfl, rfl, rfl⟩
theorem fl_X5_34 : fl_ok RX5 34 4 6 .int false := ⟨_, _, _, tyX5, rfl, by decide, w_188, in_RX5, tyX5_ok, nmX5, rfl, rfl, rfl⟩
theorem fl_X8_10 : fl_ok RX8 10 6 0 (.object "FlowGates$Tape") true := ⟨_, _, _, tyX8, rfl, by decide, w_204, in_RX8, tyX8_ok, nmX8, rfl, rfl, rfl⟩
theorem fl_X8_19 : fl_ok RX8 19 6 1 (.object "FlowGates$Tables") true := ⟨_, _, _, tyX8, rfl, by decide, w_205, in_RX8, tyX8_ok, nmX8, rfl, rfl, rfl⟩
theorem fl_X8_28 : fl_ok RX8 28 6 2 (.object "FlowGates$World") false := ⟨_, _, _, tyX8, rfl, by decide, w_206, in_RX8, tyX8_ok, nmX8, rfl, rfl, rfl⟩
theorem fl_X8_32 : fl_ok RX8 32 6 3 (.object "FlowGates$World") false := ⟨_, _, _, tyX8, rfl, by decide, w_207, in_RX8, tyX8_ok, nmX8, rfl, rfl, rfl⟩
theorem fl_X8_40 : fl_ok RX8 40 6 4 (.object "FlowGates$Teller") true := ⟨_, _, _, tyX8, rfl, by decide, w_208, in_RX8, tyX8_ok, nmX8, rfl, rfl, rfl⟩
theorem fl_X9_35 : fl_ok RX9 35 7 0 .int false := ⟨_, _, _, tyX9, rfl, by decide, w_751, in_RX9, tyX9_ok, nmX9, rfl, rfl, rfl⟩
theorem fl_X9_7 : fl_ok RX9 7 7 1 (.array .int) true := ⟨_, _, _, tyX9, rfl, by decide, w_752, in_RX9, tyX9_ok, nmX9, rfl, rfl, rfl⟩
theorem fl_X9_13 : fl_ok RX9 13 7 2 (.array .int) true := ⟨_, _, _, tyX9, rfl, by decide, w_753, in_RX9, tyX9_ok, nmX9, rfl, rfl, rfl⟩
theorem fl_X9_16 : fl_ok RX9 16 7 3 (.array .int) true := ⟨_, _, _, tyX9, rfl, by decide, w_754, in_RX9, tyX9_ok, nmX9, rfl, rfl, rfl⟩
theorem fl_X9_19 : fl_ok RX9 19 7 4 (.array .int) true := ⟨_, _, _, tyX9, rfl, by decide, w_755, in_RX9, tyX9_ok, nmX9, rfl, rfl, rfl⟩
theorem fl_X9_22 : fl_ok RX9 22 7 5 (.array .boolean) true := ⟨_, _, _, tyX9, rfl, by decide, w_756, in_RX9, tyX9_ok, nmX9, rfl, rfl, rfl⟩
theorem fl_X9_26 : fl_ok RX9 26 7 6 (.array .int) true := ⟨_, _, _, tyX9, rfl, by decide, w_757, in_RX9, tyX9_ok, nmX9, rfl, rfl, rfl⟩
theorem fl_X9_29 : fl_ok RX9 29 7 7 (.array .int) true := ⟨_, _, _, tyX9, rfl, by decide, w_758, in_RX9, tyX9_ok, nmX9, rfl, rfl, rfl⟩
theorem fl_X9_32 : fl_ok RX9 32 7 8 (.array .int) true := ⟨_, _, _, tyX9, rfl, by decide, w_759, in_RX9, tyX9_ok, nmX9, rfl, rfl, rfl⟩
theorem fl_X9_148 : fl_ok RX9 148 7 9 .int false := ⟨_, _, _, tyX9, rfl, by decide, w_760, in_RX9, tyX9_ok, nmX9, rfl, rfl, rfl⟩
theorem fl_X9_252 : fl_ok RX9 252 7 10 .int false := ⟨_, _, _, tyX9, rfl, by decide, w_761, in_RX9, tyX9_ok, nmX9, rfl, rfl, rfl⟩
theorem fl_X9_154 : fl_ok RX9 154 7 11 .int false := ⟨_, _, _, tyX9, rfl, by decide, w_762, in_RX9, tyX9_ok, nmX9, rfl, rfl, rfl⟩
theorem fl_X9_157 : fl_ok RX9 157 7 12 .int false := ⟨_, _, _, tyX9, rfl, by decide, w_763, in_RX9, tyX9_ok, nmX9, rfl, rfl, rfl⟩
theorem fl_X9_175 : fl_ok RX9 175 7 13 .int false := ⟨_, _, _, tyX9, rfl, by decide, w_764, in_RX9, tyX9_ok, nmX9, rfl, rfl, rfl⟩
theorem fl_X9_163 : fl_ok RX9 163 7 14 .int false := ⟨_, _, _, tyX9, rfl, by decide, w_765, in_RX9, tyX9_ok, nmX9, rfl, rfl, rfl⟩
theorem fl_X9_243 : fl_ok RX9 243 7 15 .int false := ⟨_, _, _, tyX9, rfl, by decide, w_766, in_RX9, tyX9_ok, nmX9, rfl, rfl, rfl⟩
theorem fl_X9_182 : fl_ok RX9 182 7 16 .int false := ⟨_, _, _, tyX9, rfl, by decide, w_767, in_RX9, tyX9_ok, nmX9, rfl, rfl, rfl⟩
