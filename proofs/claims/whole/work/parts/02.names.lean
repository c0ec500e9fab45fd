def RX0 : String := "FlowGates$1"
def TX0 : u_T := fun k => match k with
  | _ => ("", "", "", false)
def tyX0 : Nat → FieldType := fun k => match k with
  | _ => .int
abbrev wsX00 : List Cond := u_ws RX0 TX0 0
theorem nmX0 : ∀ a, a < 0 → ∀ b, b < 0 → a ≠ b → (TX0 a).2.1 ≠ (TX0 b).2.1 := by decide +kernel
theorem tyX0_ok : ∀ k, k < 0 → parseFieldDescriptor (TX0 k).2.2.1 = some (tyX0 k) := by decide +kernel
def RX1 : String := "FlowGates$Gate"
def TX1 : u_T := fun k => match k with
  | 0 => ("FlowGates$Gate", "states", "[I", true)
  | 1 => ("FlowGates$Gate", "kept", "[I", true)
  | 2 => ("FlowGates$Gate", "memory", "LFlowGates$Memory;", true)
  | _ => ("FlowGates$Gate", "hasKept", "Z", false)
def tyX1 : Nat → FieldType := fun k => match k with
  | 0 => .array .int
  | 1 => .array .int
  | 2 => .object "FlowGates$Memory"
  | _ => .boolean
abbrev wsX10 : List Cond := u_ws RX1 TX1 4
theorem nmX1 : ∀ a, a < 4 → ∀ b, b < 4 → a ≠ b → (TX1 a).2.1 ≠ (TX1 b).2.1 := by decide +kernel
theorem tyX1_ok : ∀ k, k < 4 → parseFieldDescriptor (TX1 k).2.2.1 = some (tyX1 k) := by decide +kernel
abbrev cX1_init : ByteArray := prog_3_method_1_code
def yX1_init : MethodName := ⟨RX1, "<init>", "()V"⟩
abbrev cX1_copyFrom : ByteArray := prog_3_method_2_code
def yX1_copyFrom : MethodName := ⟨RX1, "copyFrom", "(LFlowGates$Gate;)V"⟩
abbrev cX1_ups : ByteArray := prog_3_method_3_code
def yX1_ups : MethodName := ⟨RX1, "ups", "()I"⟩
abbrev cX1_knownGoal : ByteArray := prog_3_method_4_code
def yX1_knownGoal : MethodName := ⟨RX1, "knownGoal", "(I)I"⟩
def RX2 : String := "FlowGates$Memory"
def TX2 : u_T := fun k => match k with
  | 0 => ("FlowGates$Memory", "flowIds", "[I", true)
  | 1 => ("FlowGates$Memory", "goals", "[I", true)
  | 2 => ("FlowGates$Memory", "ticks", "[I", true)
  | _ => ("FlowGates$Memory", "held", "I", false)
def tyX2 : Nat → FieldType := fun k => match k with
  | 0 => .array .int
  | 1 => .array .int
  | 2 => .array .int
  | _ => .int
abbrev wsX20 : List Cond := u_ws RX2 TX2 4
theorem nmX2 : ∀ a, a < 4 → ∀ b, b < 4 → a ≠ b → (TX2 a).2.1 ≠ (TX2 b).2.1 := by decide +kernel
theorem tyX2_ok : ∀ k, k < 4 → parseFieldDescriptor (TX2 k).2.2.1 = some (tyX2 k) := by decide +kernel
abbrev cX2_init : ByteArray := prog_4_method_1_code
def yX2_init : MethodName := ⟨RX2, "<init>", "()V"⟩
abbrev cX2_copyFrom : ByteArray := prog_4_method_2_code
def yX2_copyFrom : MethodName := ⟨RX2, "copyFrom", "(LFlowGates$Memory;)V"⟩
abbrev cX2_find : ByteArray := prog_4_method_3_code
def yX2_find : MethodName := ⟨RX2, "find", "(I)I"⟩
abbrev cX2_put : ByteArray := prog_4_method_4_code
def yX2_put : MethodName := ⟨RX2, "put", "(IIII)V"⟩
abbrev cX2_openAt : ByteArray := prog_4_method_5_code
def yX2_openAt : MethodName := ⟨RX2, "openAt", "(I)I"⟩
abbrev cX2_drop : ByteArray := prog_4_method_6_code
def yX2_drop : MethodName := ⟨RX2, "drop", "(I)V"⟩
abbrev cX2_move : ByteArray := prog_4_method_7_code
def yX2_move : MethodName := ⟨RX2, "move", "(II)V"⟩
abbrev cX2_shrinkTo : ByteArray := prog_4_method_8_code
def yX2_shrinkTo : MethodName := ⟨RX2, "shrinkTo", "(I)V"⟩
abbrev cX2_eldest : ByteArray := prog_4_method_9_code
def yX2_eldest : MethodName := ⟨RX2, "eldest", "()I"⟩
abbrev cX2_dropBefore : ByteArray := prog_4_method_10_code
def yX2_dropBefore : MethodName := ⟨RX2, "dropBefore", "(I)V"⟩
abbrev cX2_countTo : ByteArray := prog_4_method_11_code
def yX2_countTo : MethodName := ⟨RX2, "countTo", "(I)I"⟩
abbrev cX2_latestTo : ByteArray := prog_4_method_12_code
def yX2_latestTo : MethodName := ⟨RX2, "latestTo", "(I)I"⟩
def RX3 : String := "FlowGates$Tables"
def TX3 : u_T := fun k => match k with
  | 0 => ("FlowGates$Tables", "first", "[I", true)
  | 1 => ("FlowGates$Tables", "second", "[I", true)
  | 2 => ("FlowGates$Tables", "places", "[I", true)
  | 3 => ("FlowGates$Tables", "skips", "[I", true)
  | _ => ("FlowGates$Tables", "credits", "[I", true)
def tyX3 : Nat → FieldType := fun k => match k with
  | 0 => .array .int
  | 1 => .array .int
  | 2 => .array .int
  | 3 => .array .int
  | _ => .array .int
abbrev wsX30 : List Cond := u_ws RX3 TX3 5
theorem nmX3 : ∀ a, a < 5 → ∀ b, b < 5 → a ≠ b → (TX3 a).2.1 ≠ (TX3 b).2.1 := by decide +kernel
theorem tyX3_ok : ∀ k, k < 5 → parseFieldDescriptor (TX3 k).2.2.1 = some (tyX3 k) := by decide +kernel
abbrev cX3_init : ByteArray := prog_5_method_1_code
def yX3_init : MethodName := ⟨RX3, "<init>", "()V"⟩
abbrev cX3_make : ByteArray := prog_5_method_2_code
def yX3_make : MethodName := ⟨RX3, "make", "([ILFlowGates$World;II)V"⟩
abbrev cX3_start : ByteArray := prog_5_method_3_code
def yX3_start : MethodName := ⟨RX3, "start", "([ILFlowGates$World;II)I"⟩
abbrev cX3_take : ByteArray := prog_5_method_4_code
def yX3_take : MethodName := ⟨RX3, "take", "([III)V"⟩
def RX4 : String := "FlowGates$Tape"
def TX4 : u_T := fun k => match k with
  | 0 => ("FlowGates$Tape", "bytes", "[I", true)
  | _ => ("FlowGates$Tape", "length", "I", false)
def tyX4 : Nat → FieldType := fun k => match k with
  | 0 => .array .int
  | _ => .int
abbrev wsX40 : List Cond := u_ws RX4 TX4 2
theorem nmX4 : ∀ a, a < 2 → ∀ b, b < 2 → a ≠ b → (TX4 a).2.1 ≠ (TX4 b).2.1 := by decide +kernel
theorem tyX4_ok : ∀ k, k < 2 → parseFieldDescriptor (TX4 k).2.2.1 = some (tyX4 k) := by decide +kernel
abbrev cX4_init : ByteArray := prog_6_method_1_code
def yX4_init : MethodName := ⟨RX4, "<init>", "()V"⟩
abbrev cX4_add : ByteArray := prog_6_method_2_code
def yX4_add : MethodName := ⟨RX4, "add", "(I)V"⟩
def RX5 : String := "FlowGates$Teller"
def TX5 : u_T := fun k => match k with
  | 0 => ("FlowGates$Teller", "found", "I", false)
  | 1 => ("FlowGates$Teller", "verb", "LFlowGates$Verb;", false)
  | 2 => ("FlowGates$Teller", "numbers", "[I", true)
  | 3 => ("FlowGates$Teller", "tape", "LFlowGates$Tape;", true)
  | 4 => ("FlowGates$Teller", "kind", "I", false)
  | 5 => ("FlowGates$Teller", "place", "I", false)
  | _ => ("FlowGates$Teller", "till", "I", false)
def tyX5 : Nat → FieldType := fun k => match k with
  | 0 => .int
  | 1 => .object "FlowGates$Verb"
  | 2 => .array .int
  | 3 => .object "FlowGates$Tape"
  | 4 => .int
  | 5 => .int
  | _ => .int
abbrev wsX50 : List Cond := u_ws RX5 TX5 7
theorem nmX5 : ∀ a, a < 7 → ∀ b, b < 7 → a ≠ b → (TX5 a).2.1 ≠ (TX5 b).2.1 := by decide +kernel
theorem tyX5_ok : ∀ k, k < 7 → parseFieldDescriptor (TX5 k).2.2.1 = some (tyX5 k) := by decide +kernel
abbrev cX5_init : ByteArray := prog_7_method_1_code
def yX5_init : MethodName := ⟨RX5, "<init>", "(LFlowGates$Tape;)V"⟩
abbrev cX5_begin : ByteArray := prog_7_method_2_code
def yX5_begin : MethodName := ⟨RX5, "begin", "()V"⟩
abbrev cX5_hasMore : ByteArray := prog_7_method_3_code
def yX5_hasMore : MethodName := ⟨RX5, "hasMore", "()Z"⟩
abbrev cX5_reads : ByteArray := prog_7_method_4_code
def yX5_reads : MethodName := ⟨RX5, "reads", "(LFlowGates$World;)Z"⟩
abbrev cX5_takesVerb : ByteArray := prog_7_method_5_code
def yX5_takesVerb : MethodName := ⟨RX5, "takesVerb", "()Z"⟩
abbrev cX5_readNext : ByteArray := prog_7_method_6_code
def yX5_readNext : MethodName := ⟨RX5, "readNext", "(LFlowGates$World;C)I"⟩
abbrev cX5_readHow : ByteArray := prog_7_method_7_code
def yX5_readHow : MethodName := ⟨RX5, "readHow", "()I"⟩
abbrev cX5_numberHere : ByteArray := prog_7_method_8_code
def yX5_numberHere : MethodName := ⟨RX5, "numberHere", "()I"⟩
abbrev cX5_canBe : ByteArray := prog_7_method_9_code
def yX5_canBe : MethodName := ⟨RX5, "canBe", "(LFlowGates$World;CI)Z"⟩
abbrev cX5_takes : ByteArray := prog_7_method_10_code
def yX5_takes : MethodName := ⟨RX5, "takes", "(Ljava/lang/String;)Z"⟩
abbrev cX5_fail : ByteArray := prog_7_method_11_code
def yX5_fail : MethodName := ⟨RX5, "fail", "(II)V"⟩
abbrev cX5_advance : ByteArray := prog_7_method_12_code
def yX5_advance : MethodName := ⟨RX5, "advance", "()V"⟩
abbrev cX5_kindAt : ByteArray := prog_7_method_13_code
def yX5_kindAt : MethodName := ⟨RX5, "kindAt", "(I)I"⟩
def RX6 : String := "FlowGates$Verb"
def TX6 : u_T := fun k => match k with
  | _ => ("", "", "", false)
def tyX6 : Nat → FieldType := fun k => match k with
  | _ => .int
abbrev wsX60 : List Cond := u_ws RX6 TX6 0
theorem nmX6 : ∀ a, a < 0 → ∀ b, b < 0 → a ≠ b → (TX6 a).2.1 ≠ (TX6 b).2.1 := by decide +kernel
theorem tyX6_ok : ∀ k, k < 0 → parseFieldDescriptor (TX6 k).2.2.1 = some (tyX6 k) := by decide +kernel
def RX7 : String := "FlowGates$World"
def TX7 : u_T := fun k => match k with
  | 0 => ("FlowGates$World", "keys", "[I", true)
  | 1 => ("FlowGates$World", "weights", "[I", true)
  | 2 => ("FlowGates$World", "gates", "[LFlowGates$Gate;", true)
  | 3 => ("FlowGates$World", "slots", "I", false)
  | 4 => ("FlowGates$World", "backends", "I", false)
  | 5 => ("FlowGates$World", "clock", "I", false)
  | 6 => ("FlowGates$World", "room", "I", false)
  | 7 => ("FlowGates$World", "age", "I", false)
  | _ => ("FlowGates$World", "tables", "LFlowGates$Tables;", true)
def tyX7 : Nat → FieldType := fun k => match k with
  | 0 => .array .int
  | 1 => .array .int
  | 2 => .array (.object "FlowGates$Gate")
  | 3 => .int
  | 4 => .int
  | 5 => .int
  | 6 => .int
  | 7 => .int
  | _ => .object "FlowGates$Tables"
abbrev wsX70 : List Cond := u_ws RX7 TX7 9
theorem nmX7 : ∀ a, a < 9 → ∀ b, b < 9 → a ≠ b → (TX7 a).2.1 ≠ (TX7 b).2.1 := by decide +kernel
theorem tyX7_ok : ∀ k, k < 9 → parseFieldDescriptor (TX7 k).2.2.1 = some (tyX7 k) := by decide +kernel
abbrev cX7_init : ByteArray := prog_9_method_1_code
def yX7_init : MethodName := ⟨RX7, "<init>", "(LFlowGates$Tables;)V"⟩
abbrev cX7_copyFrom : ByteArray := prog_9_method_2_code
def yX7_copyFrom : MethodName := ⟨RX7, "copyFrom", "(LFlowGates$World;)V"⟩
abbrev cX7_isBackend : ByteArray := prog_9_method_3_code
def yX7_isBackend : MethodName := ⟨RX7, "isBackend", "(I)Z"⟩
abbrev cX7_isSlot : ByteArray := prog_9_method_4_code
def yX7_isSlot : MethodName := ⟨RX7, "isSlot", "(I)Z"⟩
abbrev cX7_hasKey : ByteArray := prog_9_method_5_code
def yX7_hasKey : MethodName := ⟨RX7, "hasKey", "(I)Z"⟩
abbrev cX7_resize : ByteArray := prog_9_method_6_code
def yX7_resize : MethodName := ⟨RX7, "resize", "(I)V"⟩
abbrev cX7_addBackend : ByteArray := prog_9_method_7_code
def yX7_addBackend : MethodName := ⟨RX7, "addBackend", "(II)V"⟩
abbrev cX7_show : ByteArray := prog_9_method_8_code
def yX7_show : MethodName := ⟨RX7, "show", "(III)I"⟩
abbrev cX7_changeRoom : ByteArray := prog_9_method_9_code
def yX7_changeRoom : MethodName := ⟨RX7, "changeRoom", "(I)V"⟩
abbrev cX7_changeAge : ByteArray := prog_9_method_10_code
def yX7_changeAge : MethodName := ⟨RX7, "changeAge", "(I)V"⟩
abbrev cX7_passTicks : ByteArray := prog_9_method_11_code
def yX7_passTicks : MethodName := ⟨RX7, "passTicks", "(I)V"⟩
abbrev cX7_forgetAged : ByteArray := prog_9_method_12_code
def yX7_forgetAged : MethodName := ⟨RX7, "forgetAged", "()V"⟩
abbrev cX7_send : ByteArray := prog_9_method_13_code
def yX7_send : MethodName := ⟨RX7, "send", "(II)I"⟩
abbrev cX7_perform : ByteArray := prog_9_method_14_code
def yX7_perform : MethodName := ⟨RX7, "perform", "(LFlowGates$Verb;[I)V"⟩
def RX8 : String := "FlowGates"
def TX8 : u_T := fun k => match k with
  | 0 => ("FlowGates", "tape", "LFlowGates$Tape;", true)
  | 1 => ("FlowGates", "tables", "LFlowGates$Tables;", true)
  | 2 => ("FlowGates", "world", "LFlowGates$World;", false)
  | 3 => ("FlowGates", "spare", "LFlowGates$World;", false)
  | _ => ("FlowGates", "teller", "LFlowGates$Teller;", true)
def tyX8 : Nat → FieldType := fun k => match k with
  | 0 => .object "FlowGates$Tape"
  | 1 => .object "FlowGates$Tables"
  | 2 => .object "FlowGates$World"
  | 3 => .object "FlowGates$World"
  | _ => .object "FlowGates$Teller"
abbrev wsX80 : List Cond := u_ws RX8 TX8 5
theorem nmX8 : ∀ a, a < 5 → ∀ b, b < 5 → a ≠ b → (TX8 a).2.1 ≠ (TX8 b).2.1 := by decide +kernel
theorem tyX8_ok : ∀ k, k < 5 → parseFieldDescriptor (TX8 k).2.2.1 = some (tyX8 k) := by decide +kernel
abbrev cX8_init : ByteArray := prog_1_method_1_code
def yX8_init : MethodName := ⟨RX8, "<init>", "()V"⟩
abbrev cX8_feed : ByteArray := prog_1_method_2_code
def yX8_feed : MethodName := ⟨RX8, "feed", "(IIIII)I"⟩
abbrev cX8_end : ByteArray := prog_1_method_3_code
def yX8_end : MethodName := ⟨RX8, "end", "(I)Z"⟩
abbrev cX8_tell : ByteArray := prog_1_method_4_code
def yX8_tell : MethodName := ⟨RX8, "tell", "()I"⟩
abbrev cX8_fault : ByteArray := prog_1_method_5_code
def yX8_fault : MethodName := ⟨RX8, "fault", "()I"⟩
abbrev cX8_size : ByteArray := prog_1_method_6_code
def yX8_size : MethodName := ⟨RX8, "size", "(I)Z"⟩
abbrev cX8_back : ByteArray := prog_1_method_7_code
def yX8_back : MethodName := ⟨RX8, "back", "(II)I"⟩
abbrev cX8_weigh : ByteArray := prog_1_method_8_code
def yX8_weigh : MethodName := ⟨RX8, "weigh", "(II)Z"⟩
abbrev cX8_see : ByteArray := prog_1_method_9_code
def yX8_see : MethodName := ⟨RX8, "see", "(III)I"⟩
abbrev cX8_set : ByteArray := prog_1_method_10_code
def yX8_set : MethodName := ⟨RX8, "set", "(II)Z"⟩
abbrev cX8_tick : ByteArray := prog_1_method_11_code
def yX8_tick : MethodName := ⟨RX8, "tick", "(I)I"⟩
abbrev cX8_pack : ByteArray := prog_1_method_12_code
def yX8_pack : MethodName := ⟨RX8, "pack", "(II)I"⟩
abbrev cX8_keep : ByteArray := prog_1_method_13_code
def yX8_keep : MethodName := ⟨RX8, "keep", "(I)Z"⟩
abbrev cX8_count : ByteArray := prog_1_method_14_code
def yX8_count : MethodName := ⟨RX8, "count", "(I)I"⟩
abbrev cX8_of : ByteArray := prog_1_method_15_code
def yX8_of : MethodName := ⟨RX8, "of", "(II)I"⟩
abbrev cX8_slot : ByteArray := prog_1_method_16_code
def yX8_slot : MethodName := ⟨RX8, "slot", "(II)I"⟩
abbrev cX8_table : ByteArray := prog_1_method_17_code
def yX8_table : MethodName := ⟨RX8, "table", "(II)I"⟩
abbrev cX8_share : ByteArray := prog_1_method_18_code
def yX8_share : MethodName := ⟨RX8, "share", "(II)I"⟩
abbrev cX8_shareBits : ByteArray := prog_1_method_19_code
def yX8_shareBits : MethodName := ⟨RX8, "shareBits", "(II)I"⟩
abbrev cX8_uneven : ByteArray := prog_1_method_20_code
def yX8_uneven : MethodName := ⟨RX8, "uneven", "(I)I"⟩
abbrev cX8_evenest : ByteArray := prog_1_method_21_code
def yX8_evenest : MethodName := ⟨RX8, "evenest", "(I)I"⟩
abbrev cX8_changed : ByteArray := prog_1_method_22_code
def yX8_changed : MethodName := ⟨RX8, "changed", "(II)I"⟩
abbrev cX8_alike : ByteArray := prog_1_method_23_code
def yX8_alike : MethodName := ⟨RX8, "alike", "(II)I"⟩
abbrev cX8_were : ByteArray := prog_1_method_24_code
def yX8_were : MethodName := ⟨RX8, "were", "(IIIZ)I"⟩
abbrev cX8_roughest : ByteArray := prog_1_method_25_code
def yX8_roughest : MethodName := ⟨RX8, "roughest", "(I)I"⟩
abbrev cX8_flow : ByteArray := prog_1_method_26_code
def yX8_flow : MethodName := ⟨RX8, "flow", "(I)I"⟩
abbrev cX8_remembers : ByteArray := prog_1_method_27_code
def yX8_remembers : MethodName := ⟨RX8, "remembers", "(III)I"⟩
abbrev cX8_flows : ByteArray := prog_1_method_28_code
def yX8_flows : MethodName := ⟨RX8, "flows", "(II)I"⟩
abbrev cX8_flowAt : ByteArray := prog_1_method_29_code
def yX8_flowAt : MethodName := ⟨RX8, "flowAt", "(II)I"⟩
abbrev cX8_astray : ByteArray := prog_1_method_30_code
def yX8_astray : MethodName := ⟨RX8, "astray", "(II)I"⟩
abbrev cX8_idle : ByteArray := prog_1_method_31_code
def yX8_idle : MethodName := ⟨RX8, "idle", "(II)I"⟩
abbrev cX8_makeTable : ByteArray := prog_1_method_32_code
def yX8_makeTable : MethodName := ⟨RX8, "makeTable", "([II)V"⟩
abbrev cX8_changes : ByteArray := prog_1_method_33_code
def yX8_changes : MethodName := ⟨RX8, "changes", "([I[IIZ)I"⟩
abbrev cX8_unevenAt : ByteArray := prog_1_method_34_code
def yX8_unevenAt : MethodName := ⟨RX8, "unevenAt", "(II)I"⟩
abbrev cX8_slotsOf : ByteArray := prog_1_method_35_code
def yX8_slotsOf : MethodName := ⟨RX8, "slotsOf", "([III)I"⟩
abbrev cX8_bitsOf : ByteArray := prog_1_method_36_code
def yX8_bitsOf : MethodName := ⟨RX8, "bitsOf", "(F)I"⟩
abbrev cX8_mix : ByteArray := prog_1_method_37_code
def yX8_mix : MethodName := ⟨RX8, "mix", "(II)I"⟩
abbrev cX8_modulo : ByteArray := prog_1_method_38_code
def yX8_modulo : MethodName := ⟨RX8, "modulo", "(II)I"⟩
abbrev cX8_offsetOf : ByteArray := prog_1_method_39_code
def yX8_offsetOf : MethodName := ⟨RX8, "offsetOf", "(II)I"⟩
abbrev cX8_skipOf : ByteArray := prog_1_method_40_code
def yX8_skipOf : MethodName := ⟨RX8, "skipOf", "(II)I"⟩
abbrev cX8_slotOfFlow : ByteArray := prog_1_method_41_code
def yX8_slotOfFlow : MethodName := ⟨RX8, "slotOfFlow", "(II)I"⟩
abbrev cX8_isWithin : ByteArray := prog_1_method_42_code
def yX8_isWithin : MethodName := ⟨RX8, "isWithin", "(III)Z"⟩
abbrev cX8_isGate : ByteArray := prog_1_method_43_code
def yX8_isGate : MethodName := ⟨RX8, "isGate", "(I)Z"⟩
abbrev cX8_isState : ByteArray := prog_1_method_44_code
def yX8_isState : MethodName := ⟨RX8, "isState", "(I)Z"⟩
abbrev cX8_isFlow : ByteArray := prog_1_method_45_code
def yX8_isFlow : MethodName := ⟨RX8, "isFlow", "(I)Z"⟩
abbrev cX8_isSize : ByteArray := prog_1_method_46_code
def yX8_isSize : MethodName := ⟨RX8, "isSize", "(I)Z"⟩
abbrev cX8_isAmong : ByteArray := prog_1_method_47_code
def yX8_isAmong : MethodName := ⟨RX8, "isAmong", "(II)Z"⟩
def RX9 : String := "FlowGatesModel"
def TX9 : u_T := fun k => match k with
  | 0 => ("FlowGatesModel", "raised", "I", false)
  | 1 => ("FlowGatesModel", "w", "[I", true)
  | 2 => ("FlowGatesModel", "spare", "[I", true)
  | 3 => ("FlowGatesModel", "laid", "[I", true)
  | 4 => ("FlowGatesModel", "other", "[I", true)
  | 5 => ("FlowGatesModel", "isUp", "[Z", true)
  | 6 => ("FlowGatesModel", "credit", "[I", true)
  | 7 => ("FlowGatesModel", "next", "[I", true)
  | 8 => ("FlowGatesModel", "tape", "[I", true)
  | 9 => ("FlowGatesModel", "taped", "I", false)
  | 10 => ("FlowGatesModel", "fault", "I", false)
  | 11 => ("FlowGatesModel", "spot", "I", false)
  | 12 => ("FlowGatesModel", "wrong", "I", false)
  | 13 => ("FlowGatesModel", "value", "I", false)
  | 14 => ("FlowGatesModel", "place", "I", false)
  | 15 => ("FlowGatesModel", "statements", "I", false)
  | _ => ("FlowGatesModel", "gate", "I", false)
def tyX9 : Nat → FieldType := fun k => match k with
  | 0 => .int
  | 1 => .array .int
  | 2 => .array .int
  | 3 => .array .int
  | 4 => .array .int
  | 5 => .array .boolean
  | 6 => .array .int
  | 7 => .array .int
  | 8 => .array .int
  | 9 => .int
  | 10 => .int
  | 11 => .int
  | 12 => .int
  | 13 => .int
  | 14 => .int
  | 15 => .int
  | _ => .int
abbrev wsX90 : List Cond := u_ws RX9 TX9 17
theorem nmX9 : ∀ a, a < 17 → ∀ b, b < 17 → a ≠ b → (TX9 a).2.1 ≠ (TX9 b).2.1 := by decide +kernel
theorem tyX9_ok : ∀ k, k < 17 → parseFieldDescriptor (TX9 k).2.2.1 = some (tyX9 k) := by decide +kernel
abbrev cX9_init : ByteArray := prog_11_method_1_code
def yX9_init : MethodName := ⟨RX9, "<init>", "()V"⟩
abbrev cX9_thrown : ByteArray := prog_11_method_2_code
def yX9_thrown : MethodName := ⟨RX9, "thrown", "()I"⟩
abbrev cX9_in : ByteArray := prog_11_method_3_code
def yX9_in : MethodName := ⟨RX9, "in", "(III)Z"⟩
abbrev cX9_isBack : ByteArray := prog_11_method_4_code
def yX9_isBack : MethodName := ⟨RX9, "isBack", "(I)Z"⟩
abbrev cX9_isGate : ByteArray := prog_11_method_5_code
def yX9_isGate : MethodName := ⟨RX9, "isGate", "(I)Z"⟩
abbrev cX9_isPrime : ByteArray := prog_11_method_6_code
def yX9_isPrime : MethodName := ⟨RX9, "isPrime", "(I)Z"⟩
abbrev cX9_mix : ByteArray := prog_11_method_7_code
def yX9_mix : MethodName := ⟨RX9, "mix", "(II)I"⟩
abbrev cX9_stateOf : ByteArray := prog_11_method_8_code
def yX9_stateOf : MethodName := ⟨RX9, "stateOf", "(II)I"⟩
abbrev cX9_offset : ByteArray := prog_11_method_9_code
def yX9_offset : MethodName := ⟨RX9, "offset", "(II)I"⟩
abbrev cX9_skip : ByteArray := prog_11_method_10_code
def yX9_skip : MethodName := ⟨RX9, "skip", "(II)I"⟩
abbrev cX9_sees : ByteArray := prog_11_method_11_code
def yX9_sees : MethodName := ⟨RX9, "sees", "(I)V"⟩
abbrev cX9_greatest : ByteArray := prog_11_method_12_code
def yX9_greatest : MethodName := ⟨RX9, "greatest", "()I"⟩
abbrev cX9_takes : ByteArray := prog_11_method_13_code
def yX9_takes : MethodName := ⟨RX9, "takes", "(II)V"⟩
abbrev cX9_lays : ByteArray := prog_11_method_14_code
def yX9_lays : MethodName := ⟨RX9, "lays", "(I)V"⟩
abbrev cX9_laysGate : ByteArray := prog_11_method_15_code
def yX9_laysGate : MethodName := ⟨RX9, "laysGate", "(I)V"⟩
abbrev cX9_copiesLaid : ByteArray := prog_11_method_16_code
def yX9_copiesLaid : MethodName := ⟨RX9, "copiesLaid", "()V"⟩
abbrev cX9_flowOf : ByteArray := prog_11_method_17_code
def yX9_flowOf : MethodName := ⟨RX9, "flowOf", "(II)I"⟩
abbrev cX9_toOf : ByteArray := prog_11_method_18_code
def yX9_toOf : MethodName := ⟨RX9, "toOf", "(II)I"⟩
abbrev cX9_whenOf : ByteArray := prog_11_method_19_code
def yX9_whenOf : MethodName := ⟨RX9, "whenOf", "(II)I"⟩
abbrev cX9_placeOf : ByteArray := prog_11_method_20_code
def yX9_placeOf : MethodName := ⟨RX9, "placeOf", "(II)I"⟩
abbrev cX9_forgets : ByteArray := prog_11_method_21_code
def yX9_forgets : MethodName := ⟨RX9, "forgets", "(II)V"⟩
abbrev cX9_eldest : ByteArray := prog_11_method_22_code
def yX9_eldest : MethodName := ⟨RX9, "eldest", "(I)I"⟩
abbrev cX9_ages : ByteArray := prog_11_method_23_code
def yX9_ages : MethodName := ⟨RX9, "ages", "()V"⟩
abbrev cX9_fits : ByteArray := prog_11_method_24_code
def yX9_fits : MethodName := ⟨RX9, "fits", "()V"⟩
abbrev cX9_slotOf : ByteArray := prog_11_method_25_code
def yX9_slotOf : MethodName := ⟨RX9, "slotOf", "(I)I"⟩
abbrev cX9_goesTo : ByteArray := prog_11_method_26_code
def yX9_goesTo : MethodName := ⟨RX9, "goesTo", "(II)I"⟩
abbrev cX9_packs : ByteArray := prog_11_method_27_code
def yX9_packs : MethodName := ⟨RX9, "packs", "(II)I"⟩
abbrev cX9_sizes : ByteArray := prog_11_method_28_code
def yX9_sizes : MethodName := ⟨RX9, "sizes", "(I)V"⟩
abbrev cX9_isKey : ByteArray := prog_11_method_29_code
def yX9_isKey : MethodName := ⟨RX9, "isKey", "(I)Z"⟩
abbrev cX9_backs : ByteArray := prog_11_method_30_code
def yX9_backs : MethodName := ⟨RX9, "backs", "(II)I"⟩
abbrev cX9_seesSo : ByteArray := prog_11_method_31_code
def yX9_seesSo : MethodName := ⟨RX9, "seesSo", "(III)I"⟩
abbrev cX9_ticks : ByteArray := prog_11_method_32_code
def yX9_ticks : MethodName := ⟨RX9, "ticks", "(I)I"⟩
abbrev cX9_holds : ByteArray := prog_11_method_33_code
def yX9_holds : MethodName := ⟨RX9, "holds", "(II)V"⟩
abbrev cX9_canHold : ByteArray := prog_11_method_34_code
def yX9_canHold : MethodName := ⟨RX9, "canHold", "(II)Z"⟩
abbrev cX9_size : ByteArray := prog_11_method_35_code
def yX9_size : MethodName := ⟨RX9, "size", "(I)Z"⟩
abbrev cX9_back : ByteArray := prog_11_method_36_code
def yX9_back : MethodName := ⟨RX9, "back", "(II)I"⟩
abbrev cX9_weigh : ByteArray := prog_11_method_37_code
def yX9_weigh : MethodName := ⟨RX9, "weigh", "(II)Z"⟩
abbrev cX9_see : ByteArray := prog_11_method_38_code
def yX9_see : MethodName := ⟨RX9, "see", "(III)I"⟩
abbrev cX9_set : ByteArray := prog_11_method_39_code
def yX9_set : MethodName := ⟨RX9, "set", "(II)Z"⟩
abbrev cX9_tick : ByteArray := prog_11_method_40_code
def yX9_tick : MethodName := ⟨RX9, "tick", "(I)I"⟩
abbrev cX9_isFlow : ByteArray := prog_11_method_41_code
def yX9_isFlow : MethodName := ⟨RX9, "isFlow", "(I)Z"⟩
abbrev cX9_pack : ByteArray := prog_11_method_42_code
def yX9_pack : MethodName := ⟨RX9, "pack", "(II)I"⟩
abbrev cX9_keep : ByteArray := prog_11_method_43_code
def yX9_keep : MethodName := ⟨RX9, "keep", "(I)Z"⟩
abbrev cX9_four : ByteArray := prog_11_method_44_code
def yX9_four : MethodName := ⟨RX9, "four", "(I)V"⟩
abbrev cX9_feed : ByteArray := prog_11_method_45_code
def yX9_feed : MethodName := ⟨RX9, "feed", "(IIIII)I"⟩
abbrev cX9_end : ByteArray := prog_11_method_46_code
def yX9_end : MethodName := ⟨RX9, "end", "(I)Z"⟩
abbrev cX9_here : ByteArray := prog_11_method_47_code
def yX9_here : MethodName := ⟨RX9, "here", "()I"⟩
abbrev cX9_fails : ByteArray := prog_11_method_48_code
def yX9_fails : MethodName := ⟨RX9, "fails", "(II)Z"⟩
abbrev cX9_isWord : ByteArray := prog_11_method_49_code
def yX9_isWord : MethodName := ⟨RX9, "isWord", "()Z"⟩
abbrev cX9_readWord : ByteArray := prog_11_method_50_code
def yX9_readWord : MethodName := ⟨RX9, "readWord", "()J"⟩
abbrev cX9_number : ByteArray := prog_11_method_51_code
def yX9_number : MethodName := ⟨RX9, "number", "(II)Z"⟩
abbrev cX9_gates : ByteArray := prog_11_method_52_code
def yX9_gates : MethodName := ⟨RX9, "gates", "()Z"⟩
abbrev cX9_ends : ByteArray := prog_11_method_53_code
def yX9_ends : MethodName := ⟨RX9, "ends", "()Z"⟩
abbrev cX9_readSize : ByteArray := prog_11_method_54_code
def yX9_readSize : MethodName := ⟨RX9, "readSize", "()Z"⟩
abbrev cX9_readBack : ByteArray := prog_11_method_55_code
def yX9_readBack : MethodName := ⟨RX9, "readBack", "(I)Z"⟩
abbrev cX9_readWeigh : ByteArray := prog_11_method_56_code
def yX9_readWeigh : MethodName := ⟨RX9, "readWeigh", "()Z"⟩
abbrev cX9_readSee : ByteArray := prog_11_method_57_code
def yX9_readSee : MethodName := ⟨RX9, "readSee", "()Z"⟩
abbrev cX9_readTick : ByteArray := prog_11_method_58_code
def yX9_readTick : MethodName := ⟨RX9, "readTick", "()Z"⟩
abbrev cX9_readHold : ByteArray := prog_11_method_59_code
def yX9_readHold : MethodName := ⟨RX9, "readHold", "(I)Z"⟩
abbrev cX9_readPack : ByteArray := prog_11_method_60_code
def yX9_readPack : MethodName := ⟨RX9, "readPack", "()Z"⟩
abbrev cX9_readStatement : ByteArray := prog_11_method_61_code
def yX9_readStatement : MethodName := ⟨RX9, "readStatement", "()Z"⟩
abbrev cX9_readText : ByteArray := prog_11_method_62_code
def yX9_readText : MethodName := ⟨RX9, "readText", "()Z"⟩
abbrev cX9_tell : ByteArray := prog_11_method_63_code
def yX9_tell : MethodName := ⟨RX9, "tell", "()I"⟩
abbrev cX9_fault : ByteArray := prog_11_method_64_code
def yX9_fault : MethodName := ⟨RX9, "fault", "()I"⟩
abbrev cX9_count : ByteArray := prog_11_method_65_code
def yX9_count : MethodName := ⟨RX9, "count", "(I)I"⟩
abbrev cX9_of : ByteArray := prog_11_method_66_code
def yX9_of : MethodName := ⟨RX9, "of", "(II)I"⟩
abbrev cX9_isSlot : ByteArray := prog_11_method_67_code
def yX9_isSlot : MethodName := ⟨RX9, "isSlot", "(I)Z"⟩
abbrev cX9_slot : ByteArray := prog_11_method_68_code
def yX9_slot : MethodName := ⟨RX9, "slot", "(II)I"⟩
abbrev cX9_table : ByteArray := prog_11_method_69_code
def yX9_table : MethodName := ⟨RX9, "table", "(II)I"⟩
abbrev cX9_sharedBy : ByteArray := prog_11_method_70_code
def yX9_sharedBy : MethodName := ⟨RX9, "sharedBy", "(II)I"⟩
abbrev cX9_share : ByteArray := prog_11_method_71_code
def yX9_share : MethodName := ⟨RX9, "share", "(II)I"⟩
abbrev cX9_shareBits : ByteArray := prog_11_method_72_code
def yX9_shareBits : MethodName := ⟨RX9, "shareBits", "(II)I"⟩
abbrev cX9_unevenBy : ByteArray := prog_11_method_73_code
def yX9_unevenBy : MethodName := ⟨RX9, "unevenBy", "(I)I"⟩
abbrev cX9_uneven : ByteArray := prog_11_method_74_code
def yX9_uneven : MethodName := ⟨RX9, "uneven", "(I)I"⟩
abbrev cX9_evenest : ByteArray := prog_11_method_75_code
def yX9_evenest : MethodName := ⟨RX9, "evenest", "(I)I"⟩
abbrev cX9_changed : ByteArray := prog_11_method_76_code
def yX9_changed : MethodName := ⟨RX9, "changed", "(II)I"⟩
abbrev cX9_alike : ByteArray := prog_11_method_77_code
def yX9_alike : MethodName := ⟨RX9, "alike", "(II)I"⟩
abbrev cX9_wereBy : ByteArray := prog_11_method_78_code
def yX9_wereBy : MethodName := ⟨RX9, "wereBy", "(IIIZ)I"⟩
abbrev cX9_were : ByteArray := prog_11_method_79_code
def yX9_were : MethodName := ⟨RX9, "were", "(IIIZ)I"⟩
abbrev cX9_roughest : ByteArray := prog_11_method_80_code
def yX9_roughest : MethodName := ⟨RX9, "roughest", "(I)I"⟩
abbrev cX9_flow : ByteArray := prog_11_method_81_code
def yX9_flow : MethodName := ⟨RX9, "flow", "(I)I"⟩
abbrev cX9_remembers : ByteArray := prog_11_method_82_code
def yX9_remembers : MethodName := ⟨RX9, "remembers", "(III)I"⟩
abbrev cX9_flows : ByteArray := prog_11_method_83_code
def yX9_flows : MethodName := ⟨RX9, "flows", "(II)I"⟩
abbrev cX9_flowAt : ByteArray := prog_11_method_84_code
def yX9_flowAt : MethodName := ⟨RX9, "flowAt", "(II)I"⟩
abbrev cX9_astray : ByteArray := prog_11_method_85_code
def yX9_astray : MethodName := ⟨RX9, "astray", "(II)I"⟩
abbrev cX9_idle : ByteArray := prog_11_method_86_code
def yX9_idle : MethodName := ⟨RX9, "idle", "(II)I"⟩
def RJx145de : String := "java/io/Serializable"
def TJx145de : u_T := fun k => match k with
  | _ => ("", "", "", false)
def tyJx145de : Nat → FieldType := fun k => match k with
  | _ => .int
theorem nmJx145de : ∀ a, a < 0 → ∀ b, b < 0 → a ≠ b → (TJx145de a).2.1 ≠ (TJx145de b).2.1 := by decide +kernel
theorem tyJx145de_ok : ∀ k, k < 0 → parseFieldDescriptor (TJx145de k).2.2.1 = some (tyJx145de k) := by decide +kernel
def RJx9f9b0 : String := "java/lang/CharSequence"
def TJx9f9b0 : u_T := fun k => match k with
  | _ => ("", "", "", false)
def tyJx9f9b0 : Nat → FieldType := fun k => match k with
  | _ => .int
theorem nmJx9f9b0 : ∀ a, a < 0 → ∀ b, b < 0 → a ≠ b → (TJx9f9b0 a).2.1 ≠ (TJx9f9b0 b).2.1 := by decide +kernel
theorem tyJx9f9b0_ok : ∀ k, k < 0 → parseFieldDescriptor (TJx9f9b0 k).2.2.1 = some (tyJx9f9b0 k) := by decide +kernel
def RJxb160c : String := "java/lang/Comparable"
def TJxb160c : u_T := fun k => match k with
  | _ => ("", "", "", false)
def tyJxb160c : Nat → FieldType := fun k => match k with
  | _ => .int
theorem nmJxb160c : ∀ a, a < 0 → ∀ b, b < 0 → a ≠ b → (TJxb160c a).2.1 ≠ (TJxb160c b).2.1 := by decide +kernel
theorem tyJxb160c_ok : ∀ k, k < 0 → parseFieldDescriptor (TJxb160c k).2.2.1 = some (tyJxb160c k) := by decide +kernel
def RJx29ce0 : String := "java/lang/Enum"
def TJx29ce0 : u_T := fun k => match k with
  | _ => ("", "", "", false)
def tyJx29ce0 : Nat → FieldType := fun k => match k with
  | _ => .int
theorem nmJx29ce0 : ∀ a, a < 0 → ∀ b, b < 0 → a ≠ b → (TJx29ce0 a).2.1 ≠ (TJx29ce0 b).2.1 := by decide +kernel
theorem tyJx29ce0_ok : ∀ k, k < 0 → parseFieldDescriptor (TJx29ce0 k).2.2.1 = some (tyJx29ce0 k) := by decide +kernel
abbrev cJx29ce0_ordinal_8abf5 : ByteArray := prog_15_method_2_code
def yJx29ce0_ordinal_8abf5 : MethodName := ⟨RJx29ce0, "ordinal", "()I"⟩
def RJxf58ca : String := "java/lang/Float"
def TJxf58ca : u_T := fun k => match k with
  | _ => ("", "", "", false)
def tyJxf58ca : Nat → FieldType := fun k => match k with
  | _ => .int
theorem nmJxf58ca : ∀ a, a < 0 → ∀ b, b < 0 → a ≠ b → (TJxf58ca a).2.1 ≠ (TJxf58ca b).2.1 := by decide +kernel
theorem tyJxf58ca_ok : ∀ k, k < 0 → parseFieldDescriptor (TJxf58ca k).2.2.1 = some (tyJxf58ca k) := by decide +kernel
abbrev cJxf58ca_isNaN_12338 : ByteArray := prog_17_method_6_code
def yJxf58ca_isNaN_12338 : MethodName := ⟨RJxf58ca, "isNaN", "(F)Z"⟩
abbrev cJxf58ca_floatToIntBits_5c35a : ByteArray := prog_17_method_24_code
def yJxf58ca_floatToIntBits_5c35a : MethodName := ⟨RJxf58ca, "floatToIntBits", "(F)I"⟩
def RJ9 : String := "java/lang/Math"
def TJ9 : u_T := fun k => match k with
  | _ => ("", "", "", false)
def tyJ9 : Nat → FieldType := fun k => match k with
  | _ => .int
abbrev wsJ90 : List Cond := u_ws RJ9 TJ9 0
theorem nmJ9 : ∀ a, a < 0 → ∀ b, b < 0 → a ≠ b → (TJ9 a).2.1 ≠ (TJ9 b).2.1 := by decide +kernel
theorem tyJ9_ok : ∀ k, k < 0 → parseFieldDescriptor (TJ9 k).2.2.1 = some (tyJ9 k) := by decide +kernel
abbrev cJ9_abs_0f7a4 : ByteArray := prog_18_method_59_code
def yJ9_abs_0f7a4 : MethodName := ⟨RJ9, "abs", "(I)I"⟩
abbrev cJ9_max_7cf53 : ByteArray := prog_18_method_65_code
def yJ9_max_7cf53 : MethodName := ⟨RJ9, "max", "(II)I"⟩
def RJxd2413 : String := "java/lang/Number"
def TJxd2413 : u_T := fun k => match k with
  | _ => ("", "", "", false)
def tyJxd2413 : Nat → FieldType := fun k => match k with
  | _ => .int
theorem nmJxd2413 : ∀ a, a < 0 → ∀ b, b < 0 → a ≠ b → (TJxd2413 a).2.1 ≠ (TJxd2413 b).2.1 := by decide +kernel
theorem tyJxd2413_ok : ∀ k, k < 0 → parseFieldDescriptor (TJxd2413 k).2.2.1 = some (tyJxd2413 k) := by decide +kernel
def RJ0 : String := "java/lang/String"
def TJ0 : u_T := fun k => match k with
  | _ => ("", "", "", false)
def tyJ0 : Nat → FieldType := fun k => match k with
  | _ => .int
abbrev wsJ00 : List Cond := u_ws RJ0 TJ0 0
theorem nmJ0 : ∀ a, a < 0 → ∀ b, b < 0 → a ≠ b → (TJ0 a).2.1 ≠ (TJ0 b).2.1 := by decide +kernel
theorem tyJ0_ok : ∀ k, k < 0 → parseFieldDescriptor (TJ0 k).2.2.1 = some (tyJ0 k) := by decide +kernel
abbrev cJ0_length_8abf5 : ByteArray := prog_21_method_54_code
def yJ0_length_8abf5 : MethodName := ⟨RJ0, "length", "()I"⟩
abbrev cJ0_charAt_5068e : ByteArray := prog_21_method_56_code
def yJ0_charAt_5068e : MethodName := ⟨RJ0, "charAt", "(I)C"⟩
abbrev cJ0_coder_7d493 : ByteArray := prog_21_method_152_code
def yJ0_coder_7d493 : MethodName := ⟨RJ0, "coder", "()B"⟩
abbrev cJ0_isLatin1_aae02 : ByteArray := prog_21_method_154_code
def yJ0_isLatin1_aae02 : MethodName := ⟨RJ0, "isLatin1", "()Z"⟩
abbrev cJ0_checkIndex_df160 : ByteArray := prog_21_method_155_code
def yJ0_checkIndex_df160 : MethodName := ⟨RJ0, "checkIndex", "(II)V"⟩
def RJ1 : String := "java/lang/StringLatin1"
def TJ1 : u_T := fun k => match k with
  | _ => ("", "", "", false)
def tyJ1 : Nat → FieldType := fun k => match k with
  | _ => .int
abbrev wsJ10 : List Cond := u_ws RJ1 TJ1 0
theorem nmJ1 : ∀ a, a < 0 → ∀ b, b < 0 → a ≠ b → (TJ1 a).2.1 ≠ (TJ1 b).2.1 := by decide +kernel
theorem tyJ1_ok : ∀ k, k < 0 → parseFieldDescriptor (TJ1 k).2.2.1 = some (tyJ1 k) := by decide +kernel
abbrev cJ1_charAt_3b067 : ByteArray := prog_22_method_2_code
def yJ1_charAt_3b067 : MethodName := ⟨RJ1, "charAt", "([BI)C"⟩
def RJ2 : String := "java/lang/StringUTF16"
def TJ2 : u_T := fun k => match k with
  | _ => ("", "", "", false)
def tyJ2 : Nat → FieldType := fun k => match k with
  | _ => .int
abbrev wsJ20 : List Cond := u_ws RJ2 TJ2 0
theorem nmJ2 : ∀ a, a < 0 → ∀ b, b < 0 → a ≠ b → (TJ2 a).2.1 ≠ (TJ2 b).2.1 := by decide +kernel
theorem tyJ2_ok : ∀ k, k < 0 → parseFieldDescriptor (TJ2 k).2.2.1 = some (tyJ2 k) := by decide +kernel
abbrev cJ2_getChar_3b067 : ByteArray := prog_23_method_5_code
def yJ2_getChar_3b067 : MethodName := ⟨RJ2, "getChar", "([BI)C"⟩
abbrev cJ2_length_9d52b : ByteArray := prog_23_method_6_code
def yJ2_length_9d52b : MethodName := ⟨RJ2, "length", "([B)I"⟩
abbrev cJ2_charAt_3b067 : ByteArray := prog_23_method_83_code
def yJ2_charAt_3b067 : MethodName := ⟨RJ2, "charAt", "([BI)C"⟩
abbrev cJ2_checkIndex_2214a : ByteArray := prog_23_method_91_code
def yJ2_checkIndex_2214a : MethodName := ⟨RJ2, "checkIndex", "(I[B)V"⟩
def RJ10 : String := "java/lang/System"
def TJ10 : u_T := fun k => match k with
  | _ => ("", "", "", false)
def tyJ10 : Nat → FieldType := fun k => match k with
  | _ => .int
abbrev wsJ100 : List Cond := u_ws RJ10 TJ10 0
theorem nmJ10 : ∀ a, a < 0 → ∀ b, b < 0 → a ≠ b → (TJ10 a).2.1 ≠ (TJ10 b).2.1 := by decide +kernel
theorem tyJ10_ok : ∀ k, k < 0 → parseFieldDescriptor (TJ10 k).2.2.1 = some (tyJ10 k) := by decide +kernel
def RJxfd54e : String := "java/lang/constant/Constable"
def TJxfd54e : u_T := fun k => match k with
  | _ => ("", "", "", false)
def tyJxfd54e : Nat → FieldType := fun k => match k with
  | _ => .int
theorem nmJxfd54e : ∀ a, a < 0 → ∀ b, b < 0 → a ≠ b → (TJxfd54e a).2.1 ≠ (TJxfd54e b).2.1 := by decide +kernel
theorem tyJxfd54e_ok : ∀ k, k < 0 → parseFieldDescriptor (TJxfd54e k).2.2.1 = some (tyJxfd54e k) := by decide +kernel
def RJx3cf43 : String := "java/lang/constant/ConstantDesc"
def TJx3cf43 : u_T := fun k => match k with
  | _ => ("", "", "", false)
def tyJx3cf43 : Nat → FieldType := fun k => match k with
  | _ => .int
theorem nmJx3cf43 : ∀ a, a < 0 → ∀ b, b < 0 → a ≠ b → (TJx3cf43 a).2.1 ≠ (TJx3cf43 b).2.1 := by decide +kernel
theorem tyJx3cf43_ok : ∀ k, k < 0 → parseFieldDescriptor (TJx3cf43 k).2.2.1 = some (tyJx3cf43 k) := by decide +kernel
def RJ3 : String := "jdk/internal/util/Preconditions"
def TJ3 : u_T := fun k => match k with
  | _ => ("", "", "", false)
def tyJ3 : Nat → FieldType := fun k => match k with
  | _ => .int
abbrev wsJ30 : List Cond := u_ws RJ3 TJ3 0
theorem nmJ3 : ∀ a, a < 0 → ∀ b, b < 0 → a ≠ b → (TJ3 a).2.1 ≠ (TJ3 b).2.1 := by decide +kernel
theorem tyJ3_ok : ∀ k, k < 0 → parseFieldDescriptor (TJ3 k).2.2.1 = some (tyJ3 k) := by decide +kernel
abbrev cJ3_checkIndex_8e157 : ByteArray := prog_29_method_11_code
def yJ3_checkIndex_8e157 : MethodName := ⟨RJ3, "checkIndex", "(IILjava/util/function/BiFunction;)I"⟩
def RL : String := "FlowGatesLaw"
abbrev cL_of : ByteArray := method_3_code
def yL_of : MethodName := ⟨RL, "of", "(LFlowGates;II[J)I"⟩
abbrev cL_law : ByteArray := code
def yL_law : MethodName := ⟨RL, "law", "([I)Z"⟩
abbrev vwCl : List vw_C := [(RX1, TX1, 4), (RX2, TX2, 4), (RX3, TX3, 5), (RX4, TX4, 2), (RX5, TX5, 7), (RX7, TX7, 9), (RX8, TX8, 5), (RX9, TX9, 17)]
