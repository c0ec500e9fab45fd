section
-- ===== PART A: goes FIRST, ahead of the names: the tables' words, and 'selects' of the private methods out of them =====
/-- a private method of a class that the tables say can be made, by its rows of tables_1 -/
def lw_okq (q : MethodName × Nat) : Prop := (q.1.cls ≠ "java/lang/invoke/MethodHandle" ∧ q.1.cls ≠ "java/lang/invoke/VarHandle") ∧ Cond.instantiable q.1.cls q.2 ∈ tables_1 ∧ Cond.privateMethod q.1 ∈ tables_1 ∧ Cond.instanceMethod q.1 ∈ tables_1
theorem lw_p0 : lw_okq (⟨"FlowGates$Teller", "advance", "()V"⟩, 7) := ⟨⟨by decide +kernel, by decide +kernel⟩, List.mem_of_getElem? (i := 172) (by decide +kernel), List.mem_of_getElem? (i := 258) (by decide +kernel), List.mem_of_getElem? (i := 259) (by decide +kernel)⟩
theorem lw_p1 : lw_okq (⟨"FlowGates$Teller", "kindAt", "(I)I"⟩, 7) := ⟨⟨by decide +kernel, by decide +kernel⟩, List.mem_of_getElem? (i := 172) (by decide +kernel), List.mem_of_getElem? (i := 262) (by decide +kernel), List.mem_of_getElem? (i := 263) (by decide +kernel)⟩
theorem lw_p2 : lw_okq (⟨"FlowGates$Teller", "takesVerb", "()Z"⟩, 7) := ⟨⟨by decide +kernel, by decide +kernel⟩, List.mem_of_getElem? (i := 172) (by decide +kernel), List.mem_of_getElem? (i := 274) (by decide +kernel), List.mem_of_getElem? (i := 275) (by decide +kernel)⟩
theorem lw_p3 : lw_okq (⟨"FlowGates$Teller", "takes", "(Ljava/lang/String;)Z"⟩, 7) := ⟨⟨by decide +kernel, by decide +kernel⟩, List.mem_of_getElem? (i := 172) (by decide +kernel), List.mem_of_getElem? (i := 280) (by decide +kernel), List.mem_of_getElem? (i := 281) (by decide +kernel)⟩
theorem lw_p4 : lw_okq (⟨"FlowGates$Teller", "fail", "(II)V"⟩, 7) := ⟨⟨by decide +kernel, by decide +kernel⟩, List.mem_of_getElem? (i := 172) (by decide +kernel), List.mem_of_getElem? (i := 332) (by decide +kernel), List.mem_of_getElem? (i := 333) (by decide +kernel)⟩
theorem lw_p5 : lw_okq (⟨"FlowGates$Teller", "readNext", "(LFlowGates$World;C)I"⟩, 7) := ⟨⟨by decide +kernel, by decide +kernel⟩, List.mem_of_getElem? (i := 172) (by decide +kernel), List.mem_of_getElem? (i := 338) (by decide +kernel), List.mem_of_getElem? (i := 339) (by decide +kernel)⟩
theorem lw_p6 : lw_okq (⟨"FlowGates$Teller", "readHow", "()I"⟩, 7) := ⟨⟨by decide +kernel, by decide +kernel⟩, List.mem_of_getElem? (i := 172) (by decide +kernel), List.mem_of_getElem? (i := 342) (by decide +kernel), List.mem_of_getElem? (i := 343) (by decide +kernel)⟩
theorem lw_p7 : lw_okq (⟨"FlowGates$Teller", "numberHere", "()I"⟩, 7) := ⟨⟨by decide +kernel, by decide +kernel⟩, List.mem_of_getElem? (i := 172) (by decide +kernel), List.mem_of_getElem? (i := 350) (by decide +kernel), List.mem_of_getElem? (i := 351) (by decide +kernel)⟩
theorem lw_p8 : lw_okq (⟨"FlowGates$World", "forgetAged", "()V"⟩, 9) := ⟨⟨by decide +kernel, by decide +kernel⟩, List.mem_of_getElem? (i := 75) (by decide +kernel), List.mem_of_getElem? (i := 408) (by decide +kernel), List.mem_of_getElem? (i := 409) (by decide +kernel)⟩
theorem lw_p9 : lw_okq (⟨"FlowGates$Memory", "move", "(II)V"⟩, 4) := ⟨⟨by decide +kernel, by decide +kernel⟩, List.mem_of_getElem? (i := 88) (by decide +kernel), List.mem_of_getElem? (i := 420) (by decide +kernel), List.mem_of_getElem? (i := 421) (by decide +kernel)⟩
theorem lw_p10 : lw_okq (⟨"FlowGates$Memory", "eldest", "()I"⟩, 4) := ⟨⟨by decide +kernel, by decide +kernel⟩, List.mem_of_getElem? (i := 88) (by decide +kernel), List.mem_of_getElem? (i := 432) (by decide +kernel), List.mem_of_getElem? (i := 433) (by decide +kernel)⟩
theorem lw_p11 : lw_okq (⟨"FlowGates$Tables", "start", "([ILFlowGates$World;II)I"⟩, 5) := ⟨⟨by decide +kernel, by decide +kernel⟩, List.mem_of_getElem? (i := 50) (by decide +kernel), List.mem_of_getElem? (i := 460) (by decide +kernel), List.mem_of_getElem? (i := 461) (by decide +kernel)⟩
theorem lw_p12 : lw_okq (⟨"FlowGates$Tables", "take", "([III)V"⟩, 5) := ⟨⟨by decide +kernel, by decide +kernel⟩, List.mem_of_getElem? (i := 50) (by decide +kernel), List.mem_of_getElem? (i := 485) (by decide +kernel), List.mem_of_getElem? (i := 486) (by decide +kernel)⟩
theorem lw_p13 : lw_okq (⟨"FlowGates$Memory", "openAt", "(I)I"⟩, 4) := ⟨⟨by decide +kernel, by decide +kernel⟩, List.mem_of_getElem? (i := 88) (by decide +kernel), List.mem_of_getElem? (i := 500) (by decide +kernel), List.mem_of_getElem? (i := 501) (by decide +kernel)⟩
theorem lw_p14 : lw_okq (⟨"FlowGates", "makeTable", "([II)V"⟩, 5) := ⟨⟨by decide +kernel, by decide +kernel⟩, List.mem_of_getElem? (i := 25) (by decide +kernel), List.mem_of_getElem? (i := 559) (by decide +kernel), List.mem_of_getElem? (i := 560) (by decide +kernel)⟩
theorem lw_p15 : lw_okq (⟨"FlowGates", "unevenAt", "(II)I"⟩, 5) := ⟨⟨by decide +kernel, by decide +kernel⟩, List.mem_of_getElem? (i := 25) (by decide +kernel), List.mem_of_getElem? (i := 603) (by decide +kernel), List.mem_of_getElem? (i := 604) (by decide +kernel)⟩
def lw_privs_1 : List (MethodName × Nat) := [(⟨"FlowGates$Teller", "advance", "()V"⟩, 7), (⟨"FlowGates$Teller", "kindAt", "(I)I"⟩, 7), (⟨"FlowGates$Teller", "takesVerb", "()Z"⟩, 7), (⟨"FlowGates$Teller", "takes", "(Ljava/lang/String;)Z"⟩, 7), (⟨"FlowGates$Teller", "fail", "(II)V"⟩, 7), (⟨"FlowGates$Teller", "readNext", "(LFlowGates$World;C)I"⟩, 7), (⟨"FlowGates$Teller", "readHow", "()I"⟩, 7), (⟨"FlowGates$Teller", "numberHere", "()I"⟩, 7), (⟨"FlowGates$World", "forgetAged", "()V"⟩, 9), (⟨"FlowGates$Memory", "move", "(II)V"⟩, 4), (⟨"FlowGates$Memory", "eldest", "()I"⟩, 4), (⟨"FlowGates$Tables", "start", "([ILFlowGates$World;II)I"⟩, 5), (⟨"FlowGates$Tables", "take", "([III)V"⟩, 5), (⟨"FlowGates$Memory", "openAt", "(I)I"⟩, 4), (⟨"FlowGates", "makeTable", "([II)V"⟩, 5), (⟨"FlowGates", "unevenAt", "(II)I"⟩, 5)]
theorem lw_r1 : ∀ q ∈ lw_privs_1, lw_okq q := List.forall_mem_cons.mpr ⟨lw_p0, List.forall_mem_cons.mpr ⟨lw_p1, List.forall_mem_cons.mpr ⟨lw_p2, List.forall_mem_cons.mpr ⟨lw_p3, List.forall_mem_cons.mpr ⟨lw_p4, List.forall_mem_cons.mpr ⟨lw_p5, List.forall_mem_cons.mpr ⟨lw_p6, List.forall_mem_cons.mpr ⟨lw_p7, List.forall_mem_cons.mpr ⟨lw_p8, List.forall_mem_cons.mpr ⟨lw_p9, List.forall_mem_cons.mpr ⟨lw_p10, List.forall_mem_cons.mpr ⟨lw_p11, List.forall_mem_cons.mpr ⟨lw_p12, List.forall_mem_cons.mpr ⟨lw_p13, List.forall_mem_cons.mpr ⟨lw_p14, List.forall_mem_cons.mpr ⟨lw_p15, fun _ h => absurd h List.not_mem_nil⟩⟩⟩⟩⟩⟩⟩⟩⟩⟩⟩⟩⟩⟩⟩⟩
theorem lw_p16 : lw_okq (⟨"FlowGates", "changes", "([I[IIZ)I"⟩, 5) := ⟨⟨by decide +kernel, by decide +kernel⟩, List.mem_of_getElem? (i := 25) (by decide +kernel), List.mem_of_getElem? (i := 620) (by decide +kernel), List.mem_of_getElem? (i := 621) (by decide +kernel)⟩
theorem lw_p17 : lw_okq (⟨"java/lang/Throwable", "fillInStackTrace", "(I)Ljava/lang/Throwable;"⟩, 6) := ⟨⟨by decide +kernel, by decide +kernel⟩, List.mem_of_getElem? (i := 716) (by decide +kernel), List.mem_of_getElem? (i := 714) (by decide +kernel), List.mem_of_getElem? (i := 715) (by decide +kernel)⟩
theorem lw_p18 : lw_okq (⟨"FlowGatesModel", "sizes", "(I)V"⟩, 17) := ⟨⟨by decide +kernel, by decide +kernel⟩, List.mem_of_getElem? (i := 746) (by decide +kernel), List.mem_of_getElem? (i := 816) (by decide +kernel), List.mem_of_getElem? (i := 817) (by decide +kernel)⟩
theorem lw_p19 : lw_okq (⟨"FlowGatesModel", "isKey", "(I)Z"⟩, 17) := ⟨⟨by decide +kernel, by decide +kernel⟩, List.mem_of_getElem? (i := 746) (by decide +kernel), List.mem_of_getElem? (i := 827) (by decide +kernel), List.mem_of_getElem? (i := 828) (by decide +kernel)⟩
theorem lw_p20 : lw_okq (⟨"FlowGatesModel", "backs", "(II)I"⟩, 17) := ⟨⟨by decide +kernel, by decide +kernel⟩, List.mem_of_getElem? (i := 746) (by decide +kernel), List.mem_of_getElem? (i := 831) (by decide +kernel), List.mem_of_getElem? (i := 832) (by decide +kernel)⟩
theorem lw_p21 : lw_okq (⟨"FlowGatesModel", "isBack", "(I)Z"⟩, 17) := ⟨⟨by decide +kernel, by decide +kernel⟩, List.mem_of_getElem? (i := 746) (by decide +kernel), List.mem_of_getElem? (i := 839) (by decide +kernel), List.mem_of_getElem? (i := 840) (by decide +kernel)⟩
theorem lw_p22 : lw_okq (⟨"FlowGatesModel", "seesSo", "(III)I"⟩, 17) := ⟨⟨by decide +kernel, by decide +kernel⟩, List.mem_of_getElem? (i := 746) (by decide +kernel), List.mem_of_getElem? (i := 850) (by decide +kernel), List.mem_of_getElem? (i := 851) (by decide +kernel)⟩
theorem lw_p23 : lw_okq (⟨"FlowGatesModel", "stateOf", "(II)I"⟩, 17) := ⟨⟨by decide +kernel, by decide +kernel⟩, List.mem_of_getElem? (i := 746) (by decide +kernel), List.mem_of_getElem? (i := 854) (by decide +kernel), List.mem_of_getElem? (i := 855) (by decide +kernel)⟩
theorem lw_p24 : lw_okq (⟨"FlowGatesModel", "holds", "(II)V"⟩, 17) := ⟨⟨by decide +kernel, by decide +kernel⟩, List.mem_of_getElem? (i := 746) (by decide +kernel), List.mem_of_getElem? (i := 865) (by decide +kernel), List.mem_of_getElem? (i := 866) (by decide +kernel)⟩
theorem lw_p25 : lw_okq (⟨"FlowGatesModel", "ages", "()V"⟩, 17) := ⟨⟨by decide +kernel, by decide +kernel⟩, List.mem_of_getElem? (i := 746) (by decide +kernel), List.mem_of_getElem? (i := 869) (by decide +kernel), List.mem_of_getElem? (i := 870) (by decide +kernel)⟩
theorem lw_p26 : lw_okq (⟨"FlowGatesModel", "whenOf", "(II)I"⟩, 17) := ⟨⟨by decide +kernel, by decide +kernel⟩, List.mem_of_getElem? (i := 746) (by decide +kernel), List.mem_of_getElem? (i := 873) (by decide +kernel), List.mem_of_getElem? (i := 874) (by decide +kernel)⟩
theorem lw_p27 : lw_okq (⟨"FlowGatesModel", "forgets", "(II)V"⟩, 17) := ⟨⟨by decide +kernel, by decide +kernel⟩, List.mem_of_getElem? (i := 746) (by decide +kernel), List.mem_of_getElem? (i := 877) (by decide +kernel), List.mem_of_getElem? (i := 878) (by decide +kernel)⟩
theorem lw_p28 : lw_okq (⟨"FlowGatesModel", "flowOf", "(II)I"⟩, 17) := ⟨⟨by decide +kernel, by decide +kernel⟩, List.mem_of_getElem? (i := 746) (by decide +kernel), List.mem_of_getElem? (i := 881) (by decide +kernel), List.mem_of_getElem? (i := 882) (by decide +kernel)⟩
theorem lw_p29 : lw_okq (⟨"FlowGatesModel", "toOf", "(II)I"⟩, 17) := ⟨⟨by decide +kernel, by decide +kernel⟩, List.mem_of_getElem? (i := 746) (by decide +kernel), List.mem_of_getElem? (i := 885) (by decide +kernel), List.mem_of_getElem? (i := 886) (by decide +kernel)⟩
theorem lw_p30 : lw_okq (⟨"FlowGatesModel", "fits", "()V"⟩, 17) := ⟨⟨by decide +kernel, by decide +kernel⟩, List.mem_of_getElem? (i := 746) (by decide +kernel), List.mem_of_getElem? (i := 889) (by decide +kernel), List.mem_of_getElem? (i := 890) (by decide +kernel)⟩
theorem lw_p31 : lw_okq (⟨"FlowGatesModel", "eldest", "(I)I"⟩, 17) := ⟨⟨by decide +kernel, by decide +kernel⟩, List.mem_of_getElem? (i := 746) (by decide +kernel), List.mem_of_getElem? (i := 893) (by decide +kernel), List.mem_of_getElem? (i := 894) (by decide +kernel)⟩
def lw_privs_2 : List (MethodName × Nat) := [(⟨"FlowGates", "changes", "([I[IIZ)I"⟩, 5), (⟨"java/lang/Throwable", "fillInStackTrace", "(I)Ljava/lang/Throwable;"⟩, 6), (⟨"FlowGatesModel", "sizes", "(I)V"⟩, 17), (⟨"FlowGatesModel", "isKey", "(I)Z"⟩, 17), (⟨"FlowGatesModel", "backs", "(II)I"⟩, 17), (⟨"FlowGatesModel", "isBack", "(I)Z"⟩, 17), (⟨"FlowGatesModel", "seesSo", "(III)I"⟩, 17), (⟨"FlowGatesModel", "stateOf", "(II)I"⟩, 17), (⟨"FlowGatesModel", "holds", "(II)V"⟩, 17), (⟨"FlowGatesModel", "ages", "()V"⟩, 17), (⟨"FlowGatesModel", "whenOf", "(II)I"⟩, 17), (⟨"FlowGatesModel", "forgets", "(II)V"⟩, 17), (⟨"FlowGatesModel", "flowOf", "(II)I"⟩, 17), (⟨"FlowGatesModel", "toOf", "(II)I"⟩, 17), (⟨"FlowGatesModel", "fits", "()V"⟩, 17), (⟨"FlowGatesModel", "eldest", "(I)I"⟩, 17)]
theorem lw_r2 : ∀ q ∈ lw_privs_2, lw_okq q := List.forall_mem_cons.mpr ⟨lw_p16, List.forall_mem_cons.mpr ⟨lw_p17, List.forall_mem_cons.mpr ⟨lw_p18, List.forall_mem_cons.mpr ⟨lw_p19, List.forall_mem_cons.mpr ⟨lw_p20, List.forall_mem_cons.mpr ⟨lw_p21, List.forall_mem_cons.mpr ⟨lw_p22, List.forall_mem_cons.mpr ⟨lw_p23, List.forall_mem_cons.mpr ⟨lw_p24, List.forall_mem_cons.mpr ⟨lw_p25, List.forall_mem_cons.mpr ⟨lw_p26, List.forall_mem_cons.mpr ⟨lw_p27, List.forall_mem_cons.mpr ⟨lw_p28, List.forall_mem_cons.mpr ⟨lw_p29, List.forall_mem_cons.mpr ⟨lw_p30, List.forall_mem_cons.mpr ⟨lw_p31, fun _ h => absurd h List.not_mem_nil⟩⟩⟩⟩⟩⟩⟩⟩⟩⟩⟩⟩⟩⟩⟩⟩
theorem lw_p32 : lw_okq (⟨"FlowGatesModel", "ticks", "(I)I"⟩, 17) := ⟨⟨by decide +kernel, by decide +kernel⟩, List.mem_of_getElem? (i := 746) (by decide +kernel), List.mem_of_getElem? (i := 901) (by decide +kernel), List.mem_of_getElem? (i := 902) (by decide +kernel)⟩
theorem lw_p33 : lw_okq (⟨"FlowGatesModel", "packs", "(II)I"⟩, 17) := ⟨⟨by decide +kernel, by decide +kernel⟩, List.mem_of_getElem? (i := 746) (by decide +kernel), List.mem_of_getElem? (i := 912) (by decide +kernel), List.mem_of_getElem? (i := 913) (by decide +kernel)⟩
theorem lw_p34 : lw_okq (⟨"FlowGatesModel", "goesTo", "(II)I"⟩, 17) := ⟨⟨by decide +kernel, by decide +kernel⟩, List.mem_of_getElem? (i := 746) (by decide +kernel), List.mem_of_getElem? (i := 916) (by decide +kernel), List.mem_of_getElem? (i := 917) (by decide +kernel)⟩
theorem lw_p35 : lw_okq (⟨"FlowGatesModel", "placeOf", "(II)I"⟩, 17) := ⟨⟨by decide +kernel, by decide +kernel⟩, List.mem_of_getElem? (i := 746) (by decide +kernel), List.mem_of_getElem? (i := 920) (by decide +kernel), List.mem_of_getElem? (i := 921) (by decide +kernel)⟩
theorem lw_p36 : lw_okq (⟨"FlowGatesModel", "laysGate", "(I)V"⟩, 17) := ⟨⟨by decide +kernel, by decide +kernel⟩, List.mem_of_getElem? (i := 746) (by decide +kernel), List.mem_of_getElem? (i := 924) (by decide +kernel), List.mem_of_getElem? (i := 925) (by decide +kernel)⟩
theorem lw_p37 : lw_okq (⟨"FlowGatesModel", "sees", "(I)V"⟩, 17) := ⟨⟨by decide +kernel, by decide +kernel⟩, List.mem_of_getElem? (i := 746) (by decide +kernel), List.mem_of_getElem? (i := 928) (by decide +kernel), List.mem_of_getElem? (i := 929) (by decide +kernel)⟩
theorem lw_p38 : lw_okq (⟨"FlowGatesModel", "lays", "(I)V"⟩, 17) := ⟨⟨by decide +kernel, by decide +kernel⟩, List.mem_of_getElem? (i := 746) (by decide +kernel), List.mem_of_getElem? (i := 932) (by decide +kernel), List.mem_of_getElem? (i := 933) (by decide +kernel)⟩
theorem lw_p39 : lw_okq (⟨"FlowGatesModel", "greatest", "()I"⟩, 17) := ⟨⟨by decide +kernel, by decide +kernel⟩, List.mem_of_getElem? (i := 746) (by decide +kernel), List.mem_of_getElem? (i := 936) (by decide +kernel), List.mem_of_getElem? (i := 937) (by decide +kernel)⟩
theorem lw_p40 : lw_okq (⟨"FlowGatesModel", "takes", "(II)V"⟩, 17) := ⟨⟨by decide +kernel, by decide +kernel⟩, List.mem_of_getElem? (i := 746) (by decide +kernel), List.mem_of_getElem? (i := 940) (by decide +kernel), List.mem_of_getElem? (i := 941) (by decide +kernel)⟩
theorem lw_p41 : lw_okq (⟨"FlowGatesModel", "offset", "(II)I"⟩, 17) := ⟨⟨by decide +kernel, by decide +kernel⟩, List.mem_of_getElem? (i := 746) (by decide +kernel), List.mem_of_getElem? (i := 944) (by decide +kernel), List.mem_of_getElem? (i := 945) (by decide +kernel)⟩
theorem lw_p42 : lw_okq (⟨"FlowGatesModel", "skip", "(II)I"⟩, 17) := ⟨⟨by decide +kernel, by decide +kernel⟩, List.mem_of_getElem? (i := 746) (by decide +kernel), List.mem_of_getElem? (i := 953) (by decide +kernel), List.mem_of_getElem? (i := 954) (by decide +kernel)⟩
theorem lw_p43 : lw_okq (⟨"FlowGatesModel", "slotOf", "(I)I"⟩, 17) := ⟨⟨by decide +kernel, by decide +kernel⟩, List.mem_of_getElem? (i := 746) (by decide +kernel), List.mem_of_getElem? (i := 958) (by decide +kernel), List.mem_of_getElem? (i := 959) (by decide +kernel)⟩
theorem lw_p44 : lw_okq (⟨"FlowGatesModel", "four", "(I)V"⟩, 17) := ⟨⟨by decide +kernel, by decide +kernel⟩, List.mem_of_getElem? (i := 746) (by decide +kernel), List.mem_of_getElem? (i := 971) (by decide +kernel), List.mem_of_getElem? (i := 972) (by decide +kernel)⟩
theorem lw_p45 : lw_okq (⟨"FlowGatesModel", "readText", "()Z"⟩, 17) := ⟨⟨by decide +kernel, by decide +kernel⟩, List.mem_of_getElem? (i := 746) (by decide +kernel), List.mem_of_getElem? (i := 983) (by decide +kernel), List.mem_of_getElem? (i := 984) (by decide +kernel)⟩
theorem lw_p46 : lw_okq (⟨"FlowGatesModel", "here", "()I"⟩, 17) := ⟨⟨by decide +kernel, by decide +kernel⟩, List.mem_of_getElem? (i := 746) (by decide +kernel), List.mem_of_getElem? (i := 987) (by decide +kernel), List.mem_of_getElem? (i := 988) (by decide +kernel)⟩
theorem lw_p47 : lw_okq (⟨"FlowGatesModel", "readStatement", "()Z"⟩, 17) := ⟨⟨by decide +kernel, by decide +kernel⟩, List.mem_of_getElem? (i := 746) (by decide +kernel), List.mem_of_getElem? (i := 991) (by decide +kernel), List.mem_of_getElem? (i := 992) (by decide +kernel)⟩
def lw_privs_3 : List (MethodName × Nat) := [(⟨"FlowGatesModel", "ticks", "(I)I"⟩, 17), (⟨"FlowGatesModel", "packs", "(II)I"⟩, 17), (⟨"FlowGatesModel", "goesTo", "(II)I"⟩, 17), (⟨"FlowGatesModel", "placeOf", "(II)I"⟩, 17), (⟨"FlowGatesModel", "laysGate", "(I)V"⟩, 17), (⟨"FlowGatesModel", "sees", "(I)V"⟩, 17), (⟨"FlowGatesModel", "lays", "(I)V"⟩, 17), (⟨"FlowGatesModel", "greatest", "()I"⟩, 17), (⟨"FlowGatesModel", "takes", "(II)V"⟩, 17), (⟨"FlowGatesModel", "offset", "(II)I"⟩, 17), (⟨"FlowGatesModel", "skip", "(II)I"⟩, 17), (⟨"FlowGatesModel", "slotOf", "(I)I"⟩, 17), (⟨"FlowGatesModel", "four", "(I)V"⟩, 17), (⟨"FlowGatesModel", "readText", "()Z"⟩, 17), (⟨"FlowGatesModel", "here", "()I"⟩, 17), (⟨"FlowGatesModel", "readStatement", "()Z"⟩, 17)]
theorem lw_r3 : ∀ q ∈ lw_privs_3, lw_okq q := List.forall_mem_cons.mpr ⟨lw_p32, List.forall_mem_cons.mpr ⟨lw_p33, List.forall_mem_cons.mpr ⟨lw_p34, List.forall_mem_cons.mpr ⟨lw_p35, List.forall_mem_cons.mpr ⟨lw_p36, List.forall_mem_cons.mpr ⟨lw_p37, List.forall_mem_cons.mpr ⟨lw_p38, List.forall_mem_cons.mpr ⟨lw_p39, List.forall_mem_cons.mpr ⟨lw_p40, List.forall_mem_cons.mpr ⟨lw_p41, List.forall_mem_cons.mpr ⟨lw_p42, List.forall_mem_cons.mpr ⟨lw_p43, List.forall_mem_cons.mpr ⟨lw_p44, List.forall_mem_cons.mpr ⟨lw_p45, List.forall_mem_cons.mpr ⟨lw_p46, List.forall_mem_cons.mpr ⟨lw_p47, fun _ h => absurd h List.not_mem_nil⟩⟩⟩⟩⟩⟩⟩⟩⟩⟩⟩⟩⟩⟩⟩⟩
theorem lw_p48 : lw_okq (⟨"FlowGatesModel", "isWord", "()Z"⟩, 17) := ⟨⟨by decide +kernel, by decide +kernel⟩, List.mem_of_getElem? (i := 746) (by decide +kernel), List.mem_of_getElem? (i := 995) (by decide +kernel), List.mem_of_getElem? (i := 996) (by decide +kernel)⟩
theorem lw_p49 : lw_okq (⟨"FlowGatesModel", "fails", "(II)Z"⟩, 17) := ⟨⟨by decide +kernel, by decide +kernel⟩, List.mem_of_getElem? (i := 746) (by decide +kernel), List.mem_of_getElem? (i := 999) (by decide +kernel), List.mem_of_getElem? (i := 1000) (by decide +kernel)⟩
theorem lw_p50 : lw_okq (⟨"FlowGatesModel", "readWord", "()J"⟩, 17) := ⟨⟨by decide +kernel, by decide +kernel⟩, List.mem_of_getElem? (i := 746) (by decide +kernel), List.mem_of_getElem? (i := 1003) (by decide +kernel), List.mem_of_getElem? (i := 1004) (by decide +kernel)⟩
theorem lw_p51 : lw_okq (⟨"FlowGatesModel", "readSize", "()Z"⟩, 17) := ⟨⟨by decide +kernel, by decide +kernel⟩, List.mem_of_getElem? (i := 746) (by decide +kernel), List.mem_of_getElem? (i := 1011) (by decide +kernel), List.mem_of_getElem? (i := 1012) (by decide +kernel)⟩
theorem lw_p52 : lw_okq (⟨"FlowGatesModel", "number", "(II)Z"⟩, 17) := ⟨⟨by decide +kernel, by decide +kernel⟩, List.mem_of_getElem? (i := 746) (by decide +kernel), List.mem_of_getElem? (i := 1015) (by decide +kernel), List.mem_of_getElem? (i := 1016) (by decide +kernel)⟩
theorem lw_p53 : lw_okq (⟨"FlowGatesModel", "ends", "()Z"⟩, 17) := ⟨⟨by decide +kernel, by decide +kernel⟩, List.mem_of_getElem? (i := 746) (by decide +kernel), List.mem_of_getElem? (i := 1019) (by decide +kernel), List.mem_of_getElem? (i := 1020) (by decide +kernel)⟩
theorem lw_p54 : lw_okq (⟨"FlowGatesModel", "readBack", "(I)Z"⟩, 17) := ⟨⟨by decide +kernel, by decide +kernel⟩, List.mem_of_getElem? (i := 746) (by decide +kernel), List.mem_of_getElem? (i := 1024) (by decide +kernel), List.mem_of_getElem? (i := 1025) (by decide +kernel)⟩
theorem lw_p55 : lw_okq (⟨"FlowGatesModel", "readWeigh", "()Z"⟩, 17) := ⟨⟨by decide +kernel, by decide +kernel⟩, List.mem_of_getElem? (i := 746) (by decide +kernel), List.mem_of_getElem? (i := 1029) (by decide +kernel), List.mem_of_getElem? (i := 1030) (by decide +kernel)⟩
theorem lw_p56 : lw_okq (⟨"FlowGatesModel", "readSee", "()Z"⟩, 17) := ⟨⟨by decide +kernel, by decide +kernel⟩, List.mem_of_getElem? (i := 746) (by decide +kernel), List.mem_of_getElem? (i := 1034) (by decide +kernel), List.mem_of_getElem? (i := 1035) (by decide +kernel)⟩
theorem lw_p57 : lw_okq (⟨"FlowGatesModel", "gates", "()Z"⟩, 17) := ⟨⟨by decide +kernel, by decide +kernel⟩, List.mem_of_getElem? (i := 746) (by decide +kernel), List.mem_of_getElem? (i := 1038) (by decide +kernel), List.mem_of_getElem? (i := 1039) (by decide +kernel)⟩
theorem lw_p58 : lw_okq (⟨"FlowGatesModel", "readTick", "()Z"⟩, 17) := ⟨⟨by decide +kernel, by decide +kernel⟩, List.mem_of_getElem? (i := 746) (by decide +kernel), List.mem_of_getElem? (i := 1047) (by decide +kernel), List.mem_of_getElem? (i := 1048) (by decide +kernel)⟩
theorem lw_p59 : lw_okq (⟨"FlowGatesModel", "readHold", "(I)Z"⟩, 17) := ⟨⟨by decide +kernel, by decide +kernel⟩, List.mem_of_getElem? (i := 746) (by decide +kernel), List.mem_of_getElem? (i := 1053) (by decide +kernel), List.mem_of_getElem? (i := 1054) (by decide +kernel)⟩
theorem lw_p60 : lw_okq (⟨"FlowGatesModel", "readPack", "()Z"⟩, 17) := ⟨⟨by decide +kernel, by decide +kernel⟩, List.mem_of_getElem? (i := 746) (by decide +kernel), List.mem_of_getElem? (i := 1058) (by decide +kernel), List.mem_of_getElem? (i := 1059) (by decide +kernel)⟩
theorem lw_p61 : lw_okq (⟨"FlowGatesModel", "isSlot", "(I)Z"⟩, 17) := ⟨⟨by decide +kernel, by decide +kernel⟩, List.mem_of_getElem? (i := 746) (by decide +kernel), List.mem_of_getElem? (i := 1078) (by decide +kernel), List.mem_of_getElem? (i := 1079) (by decide +kernel)⟩
theorem lw_p62 : lw_okq (⟨"FlowGatesModel", "sharedBy", "(II)I"⟩, 17) := ⟨⟨by decide +kernel, by decide +kernel⟩, List.mem_of_getElem? (i := 746) (by decide +kernel), List.mem_of_getElem? (i := 1090) (by decide +kernel), List.mem_of_getElem? (i := 1091) (by decide +kernel)⟩
theorem lw_p63 : lw_okq (⟨"FlowGatesModel", "unevenBy", "(I)I"⟩, 17) := ⟨⟨by decide +kernel, by decide +kernel⟩, List.mem_of_getElem? (i := 746) (by decide +kernel), List.mem_of_getElem? (i := 1112) (by decide +kernel), List.mem_of_getElem? (i := 1113) (by decide +kernel)⟩
def lw_privs_4 : List (MethodName × Nat) := [(⟨"FlowGatesModel", "isWord", "()Z"⟩, 17), (⟨"FlowGatesModel", "fails", "(II)Z"⟩, 17), (⟨"FlowGatesModel", "readWord", "()J"⟩, 17), (⟨"FlowGatesModel", "readSize", "()Z"⟩, 17), (⟨"FlowGatesModel", "number", "(II)Z"⟩, 17), (⟨"FlowGatesModel", "ends", "()Z"⟩, 17), (⟨"FlowGatesModel", "readBack", "(I)Z"⟩, 17), (⟨"FlowGatesModel", "readWeigh", "()Z"⟩, 17), (⟨"FlowGatesModel", "readSee", "()Z"⟩, 17), (⟨"FlowGatesModel", "gates", "()Z"⟩, 17), (⟨"FlowGatesModel", "readTick", "()Z"⟩, 17), (⟨"FlowGatesModel", "readHold", "(I)Z"⟩, 17), (⟨"FlowGatesModel", "readPack", "()Z"⟩, 17), (⟨"FlowGatesModel", "isSlot", "(I)Z"⟩, 17), (⟨"FlowGatesModel", "sharedBy", "(II)I"⟩, 17), (⟨"FlowGatesModel", "unevenBy", "(I)I"⟩, 17)]
theorem lw_r4 : ∀ q ∈ lw_privs_4, lw_okq q := List.forall_mem_cons.mpr ⟨lw_p48, List.forall_mem_cons.mpr ⟨lw_p49, List.forall_mem_cons.mpr ⟨lw_p50, List.forall_mem_cons.mpr ⟨lw_p51, List.forall_mem_cons.mpr ⟨lw_p52, List.forall_mem_cons.mpr ⟨lw_p53, List.forall_mem_cons.mpr ⟨lw_p54, List.forall_mem_cons.mpr ⟨lw_p55, List.forall_mem_cons.mpr ⟨lw_p56, List.forall_mem_cons.mpr ⟨lw_p57, List.forall_mem_cons.mpr ⟨lw_p58, List.forall_mem_cons.mpr ⟨lw_p59, List.forall_mem_cons.mpr ⟨lw_p60, List.forall_mem_cons.mpr ⟨lw_p61, List.forall_mem_cons.mpr ⟨lw_p62, List.forall_mem_cons.mpr ⟨lw_p63, fun _ h => absurd h List.not_mem_nil⟩⟩⟩⟩⟩⟩⟩⟩⟩⟩⟩⟩⟩⟩⟩⟩
theorem lw_p64 : lw_okq (⟨"FlowGatesModel", "copiesLaid", "()V"⟩, 17) := ⟨⟨by decide +kernel, by decide +kernel⟩, List.mem_of_getElem? (i := 746) (by decide +kernel), List.mem_of_getElem? (i := 1128) (by decide +kernel), List.mem_of_getElem? (i := 1129) (by decide +kernel)⟩
theorem lw_p65 : lw_okq (⟨"FlowGatesModel", "wereBy", "(IIIZ)I"⟩, 17) := ⟨⟨by decide +kernel, by decide +kernel⟩, List.mem_of_getElem? (i := 746) (by decide +kernel), List.mem_of_getElem? (i := 1136) (by decide +kernel), List.mem_of_getElem? (i := 1137) (by decide +kernel)⟩
def lw_privs_5 : List (MethodName × Nat) := [(⟨"FlowGatesModel", "copiesLaid", "()V"⟩, 17), (⟨"FlowGatesModel", "wereBy", "(IIIZ)I"⟩, 17)]
theorem lw_r5 : ∀ q ∈ lw_privs_5, lw_okq q := List.forall_mem_cons.mpr ⟨lw_p64, List.forall_mem_cons.mpr ⟨lw_p65, fun _ h => absurd h List.not_mem_nil⟩⟩
def lw_privs : List (MethodName × Nat) := lw_privs_1 ++ (lw_privs_2 ++ (lw_privs_3 ++ (lw_privs_4 ++ (lw_privs_5))))
def lw_tbl : List Cond := k2_sels lw_privs ++ tables_1
theorem lw_privs_ok : ∀ q ∈ lw_privs, lw_okq q := by
  show ∀ q ∈ lw_privs_1 ++ (lw_privs_2 ++ (lw_privs_3 ++ (lw_privs_4 ++ (lw_privs_5)))), lw_okq q
  exact List.forall_mem_append.mpr ⟨lw_r1, List.forall_mem_append.mpr ⟨lw_r2, List.forall_mem_append.mpr ⟨lw_r3, List.forall_mem_append.mpr ⟨lw_r4, lw_r5⟩⟩⟩⟩
/-- the streams that the claim lets the run draw from -/
abbrev lw_cs : List Choice := [Jvm.Choice.named "NaN.bits"]
theorem lw_bits : nanBits ∈ lw_cs := by first | decide | exact List.mem_cons_self | simp [lw_cs, nanBits]
-- ===== end of PART A; then your names; then what follows =====
end
section
def RX0 : String := "FlowGates$1"
def TX0 : u_T := fun k => match k with
  | _ => ("", "", "", false)
def tyX0 : Nat → FieldType := fun k => match k with
  | _ => .int
abbrev wsX00 : List Cond := u_ws RX0 TX0 0
theorem nmX0 : ∀ a, a < 0 → ∀ b, b < 0 → a ≠ b → (TX0 a).2.1 ≠ (TX0 b).2.1 := by decide +kernel
theorem tyX0_ok : ∀ k, k < 0 → parseFieldDescriptor (TX0 k).2.2.1 = some (tyX0 k) := by decide +kernel
def RX1 : String := "FlowGates$Gate"
def TX1 : u_T := fun k => match k with
  | 0 => ("FlowGates$Gate", "states", "[I", true)
  | 1 => ("FlowGates$Gate", "kept", "[I", true)
  | 2 => ("FlowGates$Gate", "memory", "LFlowGates$Memory;", true)
  | _ => ("FlowGates$Gate", "hasKept", "Z", false)
def tyX1 : Nat → FieldType := fun k => match k with
  | 0 => .array .int
  | 1 => .array .int
  | 2 => .object "FlowGates$Memory"
  | _ => .boolean
abbrev wsX10 : List Cond := u_ws RX1 TX1 4
theorem nmX1 : ∀ a, a < 4 → ∀ b, b < 4 → a ≠ b → (TX1 a).2.1 ≠ (TX1 b).2.1 := by decide +kernel
theorem tyX1_ok : ∀ k, k < 4 → parseFieldDescriptor (TX1 k).2.2.1 = some (tyX1 k) := by decide +kernel
abbrev cX1_init : ByteArray := prog_3_method_1_code
def yX1_init : MethodName := ⟨RX1, "<init>", "()V"⟩
abbrev cX1_copyFrom : ByteArray := prog_3_method_2_code
def yX1_copyFrom : MethodName := ⟨RX1, "copyFrom", "(LFlowGates$Gate;)V"⟩
abbrev cX1_ups : ByteArray := prog_3_method_3_code
def yX1_ups : MethodName := ⟨RX1, "ups", "()I"⟩
abbrev cX1_knownGoal : ByteArray := prog_3_method_4_code
def yX1_knownGoal : MethodName := ⟨RX1, "knownGoal", "(I)I"⟩
def RX2 : String := "FlowGates$Memory"
def TX2 : u_T := fun k => match k with
  | 0 => ("FlowGates$Memory", "flowIds", "[I", true)
  | 1 => ("FlowGates$Memory", "goals", "[I", true)
  | 2 => ("FlowGates$Memory", "ticks", "[I", true)
  | _ => ("FlowGates$Memory", "held", "I", false)
def tyX2 : Nat → FieldType := fun k => match k with
  | 0 => .array .int
  | 1 => .array .int
  | 2 => .array .int
  | _ => .int
abbrev wsX20 : List Cond := u_ws RX2 TX2 4
theorem nmX2 : ∀ a, a < 4 → ∀ b, b < 4 → a ≠ b → (TX2 a).2.1 ≠ (TX2 b).2.1 := by decide +kernel
theorem tyX2_ok : ∀ k, k < 4 → parseFieldDescriptor (TX2 k).2.2.1 = some (tyX2 k) := by decide +kernel
abbrev cX2_init : ByteArray := prog_4_method_1_code
def yX2_init : MethodName := ⟨RX2, "<init>", "()V"⟩
abbrev cX2_copyFrom : ByteArray := prog_4_method_2_code
def yX2_copyFrom : MethodName := ⟨RX2, "copyFrom", "(LFlowGates$Memory;)V"⟩
abbrev cX2_find : ByteArray := prog_4_method_3_code
def yX2_find : MethodName := ⟨RX2, "find", "(I)I"⟩
abbrev cX2_put : ByteArray := prog_4_method_4_code
def yX2_put : MethodName := ⟨RX2, "put", "(IIII)V"⟩
abbrev cX2_openAt : ByteArray := prog_4_method_5_code
def yX2_openAt : MethodName := ⟨RX2, "openAt", "(I)I"⟩
abbrev cX2_drop : ByteArray := prog_4_method_6_code
def yX2_drop : MethodName := ⟨RX2, "drop", "(I)V"⟩
abbrev cX2_move : ByteArray := prog_4_method_7_code
def yX2_move : MethodName := ⟨RX2, "move", "(II)V"⟩
abbrev cX2_shrinkTo : ByteArray := prog_4_method_8_code
def yX2_shrinkTo : MethodName := ⟨RX2, "shrinkTo", "(I)V"⟩
abbrev cX2_eldest : ByteArray := prog_4_method_9_code
def yX2_eldest : MethodName := ⟨RX2, "eldest", "()I"⟩
abbrev cX2_dropBefore : ByteArray := prog_4_method_10_code
def yX2_dropBefore : MethodName := ⟨RX2, "dropBefore", "(I)V"⟩
abbrev cX2_countTo : ByteArray := prog_4_method_11_code
def yX2_countTo : MethodName := ⟨RX2, "countTo", "(I)I"⟩
abbrev cX2_latestTo : ByteArray := prog_4_method_12_code
def yX2_latestTo : MethodName := ⟨RX2, "latestTo", "(I)I"⟩
def RX3 : String := "FlowGates$Tables"
def TX3 : u_T := fun k => match k with
  | 0 => ("FlowGates$Tables", "first", "[I", true)
  | 1 => ("FlowGates$Tables", "second", "[I", true)
  | 2 => ("FlowGates$Tables", "places", "[I", true)
  | 3 => ("FlowGates$Tables", "skips", "[I", true)
  | _ => ("FlowGates$Tables", "credits", "[I", true)
def tyX3 : Nat → FieldType := fun k => match k with
  | 0 => .array .int
  | 1 => .array .int
  | 2 => .array .int
  | 3 => .array .int
  | _ => .array .int
abbrev wsX30 : List Cond := u_ws RX3 TX3 5
theorem nmX3 : ∀ a, a < 5 → ∀ b, b < 5 → a ≠ b → (TX3 a).2.1 ≠ (TX3 b).2.1 := by decide +kernel
theorem tyX3_ok : ∀ k, k < 5 → parseFieldDescriptor (TX3 k).2.2.1 = some (tyX3 k) := by decide +kernel
abbrev cX3_init : ByteArray := prog_5_method_1_code
def yX3_init : MethodName := ⟨RX3, "<init>", "()V"⟩
abbrev cX3_make : ByteArray := prog_5_method_2_code
def yX3_make : MethodName := ⟨RX3, "make", "([ILFlowGates$World;II)V"⟩
abbrev cX3_start : ByteArray := prog_5_method_3_code
def yX3_start : MethodName := ⟨RX3, "start", "([ILFlowGates$World;II)I"⟩
abbrev cX3_take : ByteArray := prog_5_method_4_code
def yX3_take : MethodName := ⟨RX3, "take", "([III)V"⟩
def RX4 : String := "FlowGates$Tape"
def TX4 : u_T := fun k => match k with
  | 0 => ("FlowGates$Tape", "bytes", "[I", true)
  | _ => ("FlowGates$Tape", "length", "I", false)
def tyX4 : Nat → FieldType := fun k => match k with
  | 0 => .array .int
  | _ => .int
abbrev wsX40 : List Cond := u_ws RX4 TX4 2
theorem nmX4 : ∀ a, a < 2 → ∀ b, b < 2 → a ≠ b → (TX4 a).2.1 ≠ (TX4 b).2.1 := by decide +kernel
theorem tyX4_ok : ∀ k, k < 2 → parseFieldDescriptor (TX4 k).2.2.1 = some (tyX4 k) := by decide +kernel
abbrev cX4_init : ByteArray := prog_6_method_1_code
def yX4_init : MethodName := ⟨RX4, "<init>", "()V"⟩
abbrev cX4_add : ByteArray := prog_6_method_2_code
def yX4_add : MethodName := ⟨RX4, "add", "(I)V"⟩
def RX5 : String := "FlowGates$Teller"
def TX5 : u_T := fun k => match k with
  | 0 => ("FlowGates$Teller", "found", "I", false)
  | 1 => ("FlowGates$Teller", "verb", "LFlowGates$Verb;", false)
  | 2 => ("FlowGates$Teller", "numbers", "[I", true)
  | 3 => ("FlowGates$Teller", "tape", "LFlowGates$Tape;", true)
  | 4 => ("FlowGates$Teller", "kind", "I", false)
  | 5 => ("FlowGates$Teller", "place", "I", false)
  | _ => ("FlowGates$Teller", "till", "I", false)
def tyX5 : Nat → FieldType := fun k => match k with
  | 0 => .int
  | 1 => .object "FlowGates$Verb"
  | 2 => .array .int
  | 3 => .object "FlowGates$Tape"
  | 4 => .int
  | 5 => .int
  | _ => .int
abbrev wsX50 : List Cond := u_ws RX5 TX5 7
theorem nmX5 : ∀ a, a < 7 → ∀ b, b < 7 → a ≠ b → (TX5 a).2.1 ≠ (TX5 b).2.1 := by decide +kernel
theorem tyX5_ok : ∀ k, k < 7 → parseFieldDescriptor (TX5 k).2.2.1 = some (tyX5 k) := by decide +kernel
abbrev cX5_init : ByteArray := prog_7_method_1_code
def yX5_init : MethodName := ⟨RX5, "<init>", "(LFlowGates$Tape;)V"⟩
abbrev cX5_begin : ByteArray := prog_7_method_2_code
def yX5_begin : MethodName := ⟨RX5, "begin", "()V"⟩
abbrev cX5_hasMore : ByteArray := prog_7_method_3_code
def yX5_hasMore : MethodName := ⟨RX5, "hasMore", "()Z"⟩
abbrev cX5_reads : ByteArray := prog_7_method_4_code
def yX5_reads : MethodName := ⟨RX5, "reads", "(LFlowGates$World;)Z"⟩
abbrev cX5_takesVerb : ByteArray := prog_7_method_5_code
def yX5_takesVerb : MethodName := ⟨RX5, "takesVerb", "()Z"⟩
abbrev cX5_readNext : ByteArray := prog_7_method_6_code
def yX5_readNext : MethodName := ⟨RX5, "readNext", "(LFlowGates$World;C)I"⟩
abbrev cX5_readHow : ByteArray := prog_7_method_7_code
def yX5_readHow : MethodName := ⟨RX5, "readHow", "()I"⟩
abbrev cX5_numberHere : ByteArray := prog_7_method_8_code
def yX5_numberHere : MethodName := ⟨RX5, "numberHere", "()I"⟩
abbrev cX5_canBe : ByteArray := prog_7_method_9_code
def yX5_canBe : MethodName := ⟨RX5, "canBe", "(LFlowGates$World;CI)Z"⟩
abbrev cX5_takes : ByteArray := prog_7_method_10_code
def yX5_takes : MethodName := ⟨RX5, "takes", "(Ljava/lang/String;)Z"⟩
abbrev cX5_fail : ByteArray := prog_7_method_11_code
def yX5_fail : MethodName := ⟨RX5, "fail", "(II)V"⟩
abbrev cX5_advance : ByteArray := prog_7_method_12_code
def yX5_advance : MethodName := ⟨RX5, "advance", "()V"⟩
abbrev cX5_kindAt : ByteArray := prog_7_method_13_code
def yX5_kindAt : MethodName := ⟨RX5, "kindAt", "(I)I"⟩
def RX6 : String := "FlowGates$Verb"
def TX6 : u_T := fun k => match k with
  | _ => ("", "", "", false)
def tyX6 : Nat → FieldType := fun k => match k with
  | _ => .int
abbrev wsX60 : List Cond := u_ws RX6 TX6 0
theorem nmX6 : ∀ a, a < 0 → ∀ b, b < 0 → a ≠ b → (TX6 a).2.1 ≠ (TX6 b).2.1 := by decide +kernel
theorem tyX6_ok : ∀ k, k < 0 → parseFieldDescriptor (TX6 k).2.2.1 = some (tyX6 k) := by decide +kernel
def RX7 : String := "FlowGates$World"
def TX7 : u_T := fun k => match k with
  | 0 => ("FlowGates$World", "keys", "[I", true)
  | 1 => ("FlowGates$World", "weights", "[I", true)
  | 2 => ("FlowGates$World", "gates", "[LFlowGates$Gate;", true)
  | 3 => ("FlowGates$World", "slots", "I", false)
  | 4 => ("FlowGates$World", "backends", "I", false)
  | 5 => ("FlowGates$World", "clock", "I", false)
  | 6 => ("FlowGates$World", "room", "I", false)
  | 7 => ("FlowGates$World", "age", "I", false)
  | _ => ("FlowGates$World", "tables", "LFlowGates$Tables;", true)
def tyX7 : Nat → FieldType := fun k => match k with
  | 0 => .array .int
  | 1 => .array .int
  | 2 => .array (.object "FlowGates$Gate")
  | 3 => .int
  | 4 => .int
  | 5 => .int
  | 6 => .int
  | 7 => .int
  | _ => .object "FlowGates$Tables"
abbrev wsX70 : List Cond := u_ws RX7 TX7 9
theorem nmX7 : ∀ a, a < 9 → ∀ b, b < 9 → a ≠ b → (TX7 a).2.1 ≠ (TX7 b).2.1 := by decide +kernel
theorem tyX7_ok : ∀ k, k < 9 → parseFieldDescriptor (TX7 k).2.2.1 = some (tyX7 k) := by decide +kernel
abbrev cX7_init : ByteArray := prog_9_method_1_code
def yX7_init : MethodName := ⟨RX7, "<init>", "(LFlowGates$Tables;)V"⟩
abbrev cX7_copyFrom : ByteArray := prog_9_method_2_code
def yX7_copyFrom : MethodName := ⟨RX7, "copyFrom", "(LFlowGates$World;)V"⟩
abbrev cX7_isBackend : ByteArray := prog_9_method_3_code
def yX7_isBackend : MethodName := ⟨RX7, "isBackend", "(I)Z"⟩
abbrev cX7_isSlot : ByteArray := prog_9_method_4_code
def yX7_isSlot : MethodName := ⟨RX7, "isSlot", "(I)Z"⟩
abbrev cX7_hasKey : ByteArray := prog_9_method_5_code
def yX7_hasKey : MethodName := ⟨RX7, "hasKey", "(I)Z"⟩
abbrev cX7_resize : ByteArray := prog_9_method_6_code
def yX7_resize : MethodName := ⟨RX7, "resize", "(I)V"⟩
abbrev cX7_addBackend : ByteArray := prog_9_method_7_code
def yX7_addBackend : MethodName := ⟨RX7, "addBackend", "(II)V"⟩
abbrev cX7_show : ByteArray := prog_9_method_8_code
def yX7_show : MethodName := ⟨RX7, "show", "(III)I"⟩
abbrev cX7_changeRoom : ByteArray := prog_9_method_9_code
def yX7_changeRoom : MethodName := ⟨RX7, "changeRoom", "(I)V"⟩
abbrev cX7_changeAge : ByteArray := prog_9_method_10_code
def yX7_changeAge : MethodName := ⟨RX7, "changeAge", "(I)V"⟩
abbrev cX7_passTicks : ByteArray := prog_9_method_11_code
def yX7_passTicks : MethodName := ⟨RX7, "passTicks", "(I)V"⟩
abbrev cX7_forgetAged : ByteArray := prog_9_method_12_code
def yX7_forgetAged : MethodName := ⟨RX7, "forgetAged", "()V"⟩
abbrev cX7_send : ByteArray := prog_9_method_13_code
def yX7_send : MethodName := ⟨RX7, "send", "(II)I"⟩
abbrev cX7_perform : ByteArray := prog_9_method_14_code
def yX7_perform : MethodName := ⟨RX7, "perform", "(LFlowGates$Verb;[I)V"⟩
def RX8 : String := "FlowGates"
def TX8 : u_T := fun k => match k with
  | 0 => ("FlowGates", "tape", "LFlowGates$Tape;", true)
  | 1 => ("FlowGates", "tables", "LFlowGates$Tables;", true)
  | 2 => ("FlowGates", "world", "LFlowGates$World;", false)
  | 3 => ("FlowGates", "spare", "LFlowGates$World;", false)
  | _ => ("FlowGates", "teller", "LFlowGates$Teller;", true)
def tyX8 : Nat → FieldType := fun k => match k with
  | 0 => .object "FlowGates$Tape"
  | 1 => .object "FlowGates$Tables"
  | 2 => .object "FlowGates$World"
  | 3 => .object "FlowGates$World"
  | _ => .object "FlowGates$Teller"
abbrev wsX80 : List Cond := u_ws RX8 TX8 5
theorem nmX8 : ∀ a, a < 5 → ∀ b, b < 5 → a ≠ b → (TX8 a).2.1 ≠ (TX8 b).2.1 := by decide +kernel
theorem tyX8_ok : ∀ k, k < 5 → parseFieldDescriptor (TX8 k).2.2.1 = some (tyX8 k) := by decide +kernel
abbrev cX8_init : ByteArray := prog_1_method_1_code
def yX8_init : MethodName := ⟨RX8, "<init>", "()V"⟩
abbrev cX8_feed : ByteArray := prog_1_method_2_code
def yX8_feed : MethodName := ⟨RX8, "feed", "(IIIII)I"⟩
abbrev cX8_end : ByteArray := prog_1_method_3_code
def yX8_end : MethodName := ⟨RX8, "end", "(I)Z"⟩
abbrev cX8_tell : ByteArray := prog_1_method_4_code
def yX8_tell : MethodName := ⟨RX8, "tell", "()I"⟩
abbrev cX8_fault : ByteArray := prog_1_method_5_code
def yX8_fault : MethodName := ⟨RX8, "fault", "()I"⟩
abbrev cX8_size : ByteArray := prog_1_method_6_code
def yX8_size : MethodName := ⟨RX8, "size", "(I)Z"⟩
abbrev cX8_back : ByteArray := prog_1_method_7_code
def yX8_back : MethodName := ⟨RX8, "back", "(II)I"⟩
abbrev cX8_weigh : ByteArray := prog_1_method_8_code
def yX8_weigh : MethodName := ⟨RX8, "weigh", "(II)Z"⟩
abbrev cX8_see : ByteArray := prog_1_method_9_code
def yX8_see : MethodName := ⟨RX8, "see", "(III)I"⟩
abbrev cX8_set : ByteArray := prog_1_method_10_code
def yX8_set : MethodName := ⟨RX8, "set", "(II)Z"⟩
abbrev cX8_tick : ByteArray := prog_1_method_11_code
def yX8_tick : MethodName := ⟨RX8, "tick", "(I)I"⟩
abbrev cX8_pack : ByteArray := prog_1_method_12_code
def yX8_pack : MethodName := ⟨RX8, "pack", "(II)I"⟩
abbrev cX8_keep : ByteArray := prog_1_method_13_code
def yX8_keep : MethodName := ⟨RX8, "keep", "(I)Z"⟩
abbrev cX8_count : ByteArray := prog_1_method_14_code
def yX8_count : MethodName := ⟨RX8, "count", "(I)I"⟩
abbrev cX8_of : ByteArray := prog_1_method_15_code
def yX8_of : MethodName := ⟨RX8, "of", "(II)I"⟩
abbrev cX8_slot : ByteArray := prog_1_method_16_code
def yX8_slot : MethodName := ⟨RX8, "slot", "(II)I"⟩
abbrev cX8_table : ByteArray := prog_1_method_17_code
def yX8_table : MethodName := ⟨RX8, "table", "(II)I"⟩
abbrev cX8_share : ByteArray := prog_1_method_18_code
def yX8_share : MethodName := ⟨RX8, "share", "(II)I"⟩
abbrev cX8_shareBits : ByteArray := prog_1_method_19_code
def yX8_shareBits : MethodName := ⟨RX8, "shareBits", "(II)I"⟩
abbrev cX8_uneven : ByteArray := prog_1_method_20_code
def yX8_uneven : MethodName := ⟨RX8, "uneven", "(I)I"⟩
abbrev cX8_evenest : ByteArray := prog_1_method_21_code
def yX8_evenest : MethodName := ⟨RX8, "evenest", "(I)I"⟩
abbrev cX8_changed : ByteArray := prog_1_method_22_code
def yX8_changed : MethodName := ⟨RX8, "changed", "(II)I"⟩
abbrev cX8_alike : ByteArray := prog_1_method_23_code
def yX8_alike : MethodName := ⟨RX8, "alike", "(II)I"⟩
abbrev cX8_were : ByteArray := prog_1_method_24_code
def yX8_were : MethodName := ⟨RX8, "were", "(IIIZ)I"⟩
abbrev cX8_roughest : ByteArray := prog_1_method_25_code
def yX8_roughest : MethodName := ⟨RX8, "roughest", "(I)I"⟩
abbrev cX8_flow : ByteArray := prog_1_method_26_code
def yX8_flow : MethodName := ⟨RX8, "flow", "(I)I"⟩
abbrev cX8_remembers : ByteArray := prog_1_method_27_code
def yX8_remembers : MethodName := ⟨RX8, "remembers", "(III)I"⟩
abbrev cX8_flows : ByteArray := prog_1_method_28_code
def yX8_flows : MethodName := ⟨RX8, "flows", "(II)I"⟩
abbrev cX8_flowAt : ByteArray := prog_1_method_29_code
def yX8_flowAt : MethodName := ⟨RX8, "flowAt", "(II)I"⟩
abbrev cX8_astray : ByteArray := prog_1_method_30_code
def yX8_astray : MethodName := ⟨RX8, "astray", "(II)I"⟩
abbrev cX8_idle : ByteArray := prog_1_method_31_code
def yX8_idle : MethodName := ⟨RX8, "idle", "(II)I"⟩
abbrev cX8_makeTable : ByteArray := prog_1_method_32_code
def yX8_makeTable : MethodName := ⟨RX8, "makeTable", "([II)V"⟩
abbrev cX8_changes : ByteArray := prog_1_method_33_code
def yX8_changes : MethodName := ⟨RX8, "changes", "([I[IIZ)I"⟩
abbrev cX8_unevenAt : ByteArray := prog_1_method_34_code
def yX8_unevenAt : MethodName := ⟨RX8, "unevenAt", "(II)I"⟩
abbrev cX8_slotsOf : ByteArray := prog_1_method_35_code
def yX8_slotsOf : MethodName := ⟨RX8, "slotsOf", "([III)I"⟩
abbrev cX8_bitsOf : ByteArray := prog_1_method_36_code
def yX8_bitsOf : MethodName := ⟨RX8, "bitsOf", "(F)I"⟩
abbrev cX8_mix : ByteArray := prog_1_method_37_code
def yX8_mix : MethodName := ⟨RX8, "mix", "(II)I"⟩
abbrev cX8_modulo : ByteArray := prog_1_method_38_code
def yX8_modulo : MethodName := ⟨RX8, "modulo", "(II)I"⟩
abbrev cX8_offsetOf : ByteArray := prog_1_method_39_code
def yX8_offsetOf : MethodName := ⟨RX8, "offsetOf", "(II)I"⟩
abbrev cX8_skipOf : ByteArray := prog_1_method_40_code
def yX8_skipOf : MethodName := ⟨RX8, "skipOf", "(II)I"⟩
abbrev cX8_slotOfFlow : ByteArray := prog_1_method_41_code
def yX8_slotOfFlow : MethodName := ⟨RX8, "slotOfFlow", "(II)I"⟩
abbrev cX8_isWithin : ByteArray := prog_1_method_42_code
def yX8_isWithin : MethodName := ⟨RX8, "isWithin", "(III)Z"⟩
abbrev cX8_isGate : ByteArray := prog_1_method_43_code
def yX8_isGate : MethodName := ⟨RX8, "isGate", "(I)Z"⟩
abbrev cX8_isState : ByteArray := prog_1_method_44_code
def yX8_isState : MethodName := ⟨RX8, "isState", "(I)Z"⟩
abbrev cX8_isFlow : ByteArray := prog_1_method_45_code
def yX8_isFlow : MethodName := ⟨RX8, "isFlow", "(I)Z"⟩
abbrev cX8_isSize : ByteArray := prog_1_method_46_code
def yX8_isSize : MethodName := ⟨RX8, "isSize", "(I)Z"⟩
abbrev cX8_isAmong : ByteArray := prog_1_method_47_code
def yX8_isAmong : MethodName := ⟨RX8, "isAmong", "(II)Z"⟩
def RX9 : String := "FlowGatesModel"
def TX9 : u_T := fun k => match k with
  | 0 => ("FlowGatesModel", "raised", "I", false)
  | 1 => ("FlowGatesModel", "w", "[I", true)
  | 2 => ("FlowGatesModel", "spare", "[I", true)
  | 3 => ("FlowGatesModel", "laid", "[I", true)
  | 4 => ("FlowGatesModel", "other", "[I", true)
  | 5 => ("FlowGatesModel", "isUp", "[Z", true)
  | 6 => ("FlowGatesModel", "credit", "[I", true)
  | 7 => ("FlowGatesModel", "next", "[I", true)
  | 8 => ("FlowGatesModel", "tape", "[I", true)
  | 9 => ("FlowGatesModel", "taped", "I", false)
  | 10 => ("FlowGatesModel", "fault", "I", false)
  | 11 => ("FlowGatesModel", "spot", "I", false)
  | 12 => ("FlowGatesModel", "wrong", "I", false)
  | 13 => ("FlowGatesModel", "value", "I", false)
  | 14 => ("FlowGatesModel", "place", "I", false)
  | 15 => ("FlowGatesModel", "statements", "I", false)
  | _ => ("FlowGatesModel", "gate", "I", false)
def tyX9 : Nat → FieldType := fun k => match k with
  | 0 => .int
  | 1 => .array .int
  | 2 => .array .int
  | 3 => .array .int
  | 4 => .array .int
  | 5 => .array .boolean
  | 6 => .array .int
  | 7 => .array .int
  | 8 => .array .int
  | 9 => .int
  | 10 => .int
  | 11 => .int
  | 12 => .int
  | 13 => .int
  | 14 => .int
  | 15 => .int
  | _ => .int
abbrev wsX90 : List Cond := u_ws RX9 TX9 17
theorem nmX9 : ∀ a, a < 17 → ∀ b, b < 17 → a ≠ b → (TX9 a).2.1 ≠ (TX9 b).2.1 := by decide +kernel
theorem tyX9_ok : ∀ k, k < 17 → parseFieldDescriptor (TX9 k).2.2.1 = some (tyX9 k) := by decide +kernel
abbrev cX9_init : ByteArray := prog_11_method_1_code
def yX9_init : MethodName := ⟨RX9, "<init>", "()V"⟩
abbrev cX9_thrown : ByteArray := prog_11_method_2_code
def yX9_thrown : MethodName := ⟨RX9, "thrown", "()I"⟩
abbrev cX9_in : ByteArray := prog_11_method_3_code
def yX9_in : MethodName := ⟨RX9, "in", "(III)Z"⟩
abbrev cX9_isBack : ByteArray := prog_11_method_4_code
def yX9_isBack : MethodName := ⟨RX9, "isBack", "(I)Z"⟩
abbrev cX9_isGate : ByteArray := prog_11_method_5_code
def yX9_isGate : MethodName := ⟨RX9, "isGate", "(I)Z"⟩
abbrev cX9_isPrime : ByteArray := prog_11_method_6_code
def yX9_isPrime : MethodName := ⟨RX9, "isPrime", "(I)Z"⟩
abbrev cX9_mix : ByteArray := prog_11_method_7_code
def yX9_mix : MethodName := ⟨RX9, "mix", "(II)I"⟩
abbrev cX9_stateOf : ByteArray := prog_11_method_8_code
def yX9_stateOf : MethodName := ⟨RX9, "stateOf", "(II)I"⟩
abbrev cX9_offset : ByteArray := prog_11_method_9_code
def yX9_offset : MethodName := ⟨RX9, "offset", "(II)I"⟩
abbrev cX9_skip : ByteArray := prog_11_method_10_code
def yX9_skip : MethodName := ⟨RX9, "skip", "(II)I"⟩
abbrev cX9_sees : ByteArray := prog_11_method_11_code
def yX9_sees : MethodName := ⟨RX9, "sees", "(I)V"⟩
abbrev cX9_greatest : ByteArray := prog_11_method_12_code
def yX9_greatest : MethodName := ⟨RX9, "greatest", "()I"⟩
abbrev cX9_takes : ByteArray := prog_11_method_13_code
def yX9_takes : MethodName := ⟨RX9, "takes", "(II)V"⟩
abbrev cX9_lays : ByteArray := prog_11_method_14_code
def yX9_lays : MethodName := ⟨RX9, "lays", "(I)V"⟩
abbrev cX9_laysGate : ByteArray := prog_11_method_15_code
def yX9_laysGate : MethodName := ⟨RX9, "laysGate", "(I)V"⟩
abbrev cX9_copiesLaid : ByteArray := prog_11_method_16_code
def yX9_copiesLaid : MethodName := ⟨RX9, "copiesLaid", "()V"⟩
abbrev cX9_flowOf : ByteArray := prog_11_method_17_code
def yX9_flowOf : MethodName := ⟨RX9, "flowOf", "(II)I"⟩
abbrev cX9_toOf : ByteArray := prog_11_method_18_code
def yX9_toOf : MethodName := ⟨RX9, "toOf", "(II)I"⟩
abbrev cX9_whenOf : ByteArray := prog_11_method_19_code
def yX9_whenOf : MethodName := ⟨RX9, "whenOf", "(II)I"⟩
abbrev cX9_placeOf : ByteArray := prog_11_method_20_code
def yX9_placeOf : MethodName := ⟨RX9, "placeOf", "(II)I"⟩
abbrev cX9_forgets : ByteArray := prog_11_method_21_code
def yX9_forgets : MethodName := ⟨RX9, "forgets", "(II)V"⟩
abbrev cX9_eldest : ByteArray := prog_11_method_22_code
def yX9_eldest : MethodName := ⟨RX9, "eldest", "(I)I"⟩
abbrev cX9_ages : ByteArray := prog_11_method_23_code
def yX9_ages : MethodName := ⟨RX9, "ages", "()V"⟩
abbrev cX9_fits : ByteArray := prog_11_method_24_code
def yX9_fits : MethodName := ⟨RX9, "fits", "()V"⟩
abbrev cX9_slotOf : ByteArray := prog_11_method_25_code
def yX9_slotOf : MethodName := ⟨RX9, "slotOf", "(I)I"⟩
abbrev cX9_goesTo : ByteArray := prog_11_method_26_code
def yX9_goesTo : MethodName := ⟨RX9, "goesTo", "(II)I"⟩
abbrev cX9_packs : ByteArray := prog_11_method_27_code
def yX9_packs : MethodName := ⟨RX9, "packs", "(II)I"⟩
abbrev cX9_sizes : ByteArray := prog_11_method_28_code
def yX9_sizes : MethodName := ⟨RX9, "sizes", "(I)V"⟩
abbrev cX9_isKey : ByteArray := prog_11_method_29_code
def yX9_isKey : MethodName := ⟨RX9, "isKey", "(I)Z"⟩
abbrev cX9_backs : ByteArray := prog_11_method_30_code
def yX9_backs : MethodName := ⟨RX9, "backs", "(II)I"⟩
abbrev cX9_seesSo : ByteArray := prog_11_method_31_code
def yX9_seesSo : MethodName := ⟨RX9, "seesSo", "(III)I"⟩
abbrev cX9_ticks : ByteArray := prog_11_method_32_code
def yX9_ticks : MethodName := ⟨RX9, "ticks", "(I)I"⟩
abbrev cX9_holds : ByteArray := prog_11_method_33_code
def yX9_holds : MethodName := ⟨RX9, "holds", "(II)V"⟩
abbrev cX9_canHold : ByteArray := prog_11_method_34_code
def yX9_canHold : MethodName := ⟨RX9, "canHold", "(II)Z"⟩
abbrev cX9_size : ByteArray := prog_11_method_35_code
def yX9_size : MethodName := ⟨RX9, "size", "(I)Z"⟩
abbrev cX9_back : ByteArray := prog_11_method_36_code
def yX9_back : MethodName := ⟨RX9, "back", "(II)I"⟩
abbrev cX9_weigh : ByteArray := prog_11_method_37_code
def yX9_weigh : MethodName := ⟨RX9, "weigh", "(II)Z"⟩
abbrev cX9_see : ByteArray := prog_11_method_38_code
def yX9_see : MethodName := ⟨RX9, "see", "(III)I"⟩
abbrev cX9_set : ByteArray := prog_11_method_39_code
def yX9_set : MethodName := ⟨RX9, "set", "(II)Z"⟩
abbrev cX9_tick : ByteArray := prog_11_method_40_code
def yX9_tick : MethodName := ⟨RX9, "tick", "(I)I"⟩
abbrev cX9_isFlow : ByteArray := prog_11_method_41_code
def yX9_isFlow : MethodName := ⟨RX9, "isFlow", "(I)Z"⟩
abbrev cX9_pack : ByteArray := prog_11_method_42_code
def yX9_pack : MethodName := ⟨RX9, "pack", "(II)I"⟩
abbrev cX9_keep : ByteArray := prog_11_method_43_code
def yX9_keep : MethodName := ⟨RX9, "keep", "(I)Z"⟩
abbrev cX9_four : ByteArray := prog_11_method_44_code
def yX9_four : MethodName := ⟨RX9, "four", "(I)V"⟩
abbrev cX9_feed : ByteArray := prog_11_method_45_code
def yX9_feed : MethodName := ⟨RX9, "feed", "(IIIII)I"⟩
abbrev cX9_end : ByteArray := prog_11_method_46_code
def yX9_end : MethodName := ⟨RX9, "end", "(I)Z"⟩
abbrev cX9_here : ByteArray := prog_11_method_47_code
def yX9_here : MethodName := ⟨RX9, "here", "()I"⟩
abbrev cX9_fails : ByteArray := prog_11_method_48_code
def yX9_fails : MethodName := ⟨RX9, "fails", "(II)Z"⟩
abbrev cX9_isWord : ByteArray := prog_11_method_49_code
def yX9_isWord : MethodName := ⟨RX9, "isWord", "()Z"⟩
abbrev cX9_readWord : ByteArray := prog_11_method_50_code
def yX9_readWord : MethodName := ⟨RX9, "readWord", "()J"⟩
abbrev cX9_number : ByteArray := prog_11_method_51_code
def yX9_number : MethodName := ⟨RX9, "number", "(II)Z"⟩
abbrev cX9_gates : ByteArray := prog_11_method_52_code
def yX9_gates : MethodName := ⟨RX9, "gates", "()Z"⟩
abbrev cX9_ends : ByteArray := prog_11_method_53_code
def yX9_ends : MethodName := ⟨RX9, "ends", "()Z"⟩
abbrev cX9_readSize : ByteArray := prog_11_method_54_code
def yX9_readSize : MethodName := ⟨RX9, "readSize", "()Z"⟩
abbrev cX9_readBack : ByteArray := prog_11_method_55_code
def yX9_readBack : MethodName := ⟨RX9, "readBack", "(I)Z"⟩
abbrev cX9_readWeigh : ByteArray := prog_11_method_56_code
def yX9_readWeigh : MethodName := ⟨RX9, "readWeigh", "()Z"⟩
abbrev cX9_readSee : ByteArray := prog_11_method_57_code
def yX9_readSee : MethodName := ⟨RX9, "readSee", "()Z"⟩
abbrev cX9_readTick : ByteArray := prog_11_method_58_code
def yX9_readTick : MethodName := ⟨RX9, "readTick", "()Z"⟩
abbrev cX9_readHold : ByteArray := prog_11_method_59_code
def yX9_readHold : MethodName := ⟨RX9, "readHold", "(I)Z"⟩
abbrev cX9_readPack : ByteArray := prog_11_method_60_code
def yX9_readPack : MethodName := ⟨RX9, "readPack", "()Z"⟩
abbrev cX9_readStatement : ByteArray := prog_11_method_61_code
def yX9_readStatement : MethodName := ⟨RX9, "readStatement", "()Z"⟩
abbrev cX9_readText : ByteArray := prog_11_method_62_code
def yX9_readText : MethodName := ⟨RX9, "readText", "()Z"⟩
abbrev cX9_tell : ByteArray := prog_11_method_63_code
def yX9_tell : MethodName := ⟨RX9, "tell", "()I"⟩
abbrev cX9_fault : ByteArray := prog_11_method_64_code
def yX9_fault : MethodName := ⟨RX9, "fault", "()I"⟩
abbrev cX9_count : ByteArray := prog_11_method_65_code
def yX9_count : MethodName := ⟨RX9, "count", "(I)I"⟩
abbrev cX9_of : ByteArray := prog_11_method_66_code
def yX9_of : MethodName := ⟨RX9, "of", "(II)I"⟩
abbrev cX9_isSlot : ByteArray := prog_11_method_67_code
def yX9_isSlot : MethodName := ⟨RX9, "isSlot", "(I)Z"⟩
abbrev cX9_slot : ByteArray := prog_11_method_68_code
def yX9_slot : MethodName := ⟨RX9, "slot", "(II)I"⟩
abbrev cX9_table : ByteArray := prog_11_method_69_code
def yX9_table : MethodName := ⟨RX9, "table", "(II)I"⟩
abbrev cX9_sharedBy : ByteArray := prog_11_method_70_code
def yX9_sharedBy : MethodName := ⟨RX9, "sharedBy", "(II)I"⟩
abbrev cX9_share : ByteArray := prog_11_method_71_code
def yX9_share : MethodName := ⟨RX9, "share", "(II)I"⟩
abbrev cX9_shareBits : ByteArray := prog_11_method_72_code
def yX9_shareBits : MethodName := ⟨RX9, "shareBits", "(II)I"⟩
abbrev cX9_unevenBy : ByteArray := prog_11_method_73_code
def yX9_unevenBy : MethodName := ⟨RX9, "unevenBy", "(I)I"⟩
abbrev cX9_uneven : ByteArray := prog_11_method_74_code
def yX9_uneven : MethodName := ⟨RX9, "uneven", "(I)I"⟩
abbrev cX9_evenest : ByteArray := prog_11_method_75_code
def yX9_evenest : MethodName := ⟨RX9, "evenest", "(I)I"⟩
abbrev cX9_changed : ByteArray := prog_11_method_76_code
def yX9_changed : MethodName := ⟨RX9, "changed", "(II)I"⟩
abbrev cX9_alike : ByteArray := prog_11_method_77_code
def yX9_alike : MethodName := ⟨RX9, "alike", "(II)I"⟩
abbrev cX9_wereBy : ByteArray := prog_11_method_78_code
def yX9_wereBy : MethodName := ⟨RX9, "wereBy", "(IIIZ)I"⟩
abbrev cX9_were : ByteArray := prog_11_method_79_code
def yX9_were : MethodName := ⟨RX9, "were", "(IIIZ)I"⟩
abbrev cX9_roughest : ByteArray := prog_11_method_80_code
def yX9_roughest : MethodName := ⟨RX9, "roughest", "(I)I"⟩
abbrev cX9_flow : ByteArray := prog_11_method_81_code
def yX9_flow : MethodName := ⟨RX9, "flow", "(I)I"⟩
abbrev cX9_remembers : ByteArray := prog_11_method_82_code
def yX9_remembers : MethodName := ⟨RX9, "remembers", "(III)I"⟩
abbrev cX9_flows : ByteArray := prog_11_method_83_code
def yX9_flows : MethodName := ⟨RX9, "flows", "(II)I"⟩
abbrev cX9_flowAt : ByteArray := prog_11_method_84_code
def yX9_flowAt : MethodName := ⟨RX9, "flowAt", "(II)I"⟩
abbrev cX9_astray : ByteArray := prog_11_method_85_code
def yX9_astray : MethodName := ⟨RX9, "astray", "(II)I"⟩
abbrev cX9_idle : ByteArray := prog_11_method_86_code
def yX9_idle : MethodName := ⟨RX9, "idle", "(II)I"⟩
def RJx145de : String := "java/io/Serializable"
def TJx145de : u_T := fun k => match k with
  | _ => ("", "", "", false)
def tyJx145de : Nat → FieldType := fun k => match k with
  | _ => .int
theorem nmJx145de : ∀ a, a < 0 → ∀ b, b < 0 → a ≠ b → (TJx145de a).2.1 ≠ (TJx145de b).2.1 := by decide +kernel
theorem tyJx145de_ok : ∀ k, k < 0 → parseFieldDescriptor (TJx145de k).2.2.1 = some (tyJx145de k) := by decide +kernel
def RJx9f9b0 : String := "java/lang/CharSequence"
def TJx9f9b0 : u_T := fun k => match k with
  | _ => ("", "", "", false)
def tyJx9f9b0 : Nat → FieldType := fun k => match k with
  | _ => .int
theorem nmJx9f9b0 : ∀ a, a < 0 → ∀ b, b < 0 → a ≠ b → (TJx9f9b0 a).2.1 ≠ (TJx9f9b0 b).2.1 := by decide +kernel
theorem tyJx9f9b0_ok : ∀ k, k < 0 → parseFieldDescriptor (TJx9f9b0 k).2.2.1 = some (tyJx9f9b0 k) := by decide +kernel
def RJxb160c : String := "java/lang/Comparable"
def TJxb160c : u_T := fun k => match k with
  | _ => ("", "", "", false)
def tyJxb160c : Nat → FieldType := fun k => match k with
  | _ => .int
theorem nmJxb160c : ∀ a, a < 0 → ∀ b, b < 0 → a ≠ b → (TJxb160c a).2.1 ≠ (TJxb160c b).2.1 := by decide +kernel
theorem tyJxb160c_ok : ∀ k, k < 0 → parseFieldDescriptor (TJxb160c k).2.2.1 = some (tyJxb160c k) := by decide +kernel
def RJx29ce0 : String := "java/lang/Enum"
def TJx29ce0 : u_T := fun k => match k with
  | _ => ("", "", "", false)
def tyJx29ce0 : Nat → FieldType := fun k => match k with
  | _ => .int
theorem nmJx29ce0 : ∀ a, a < 0 → ∀ b, b < 0 → a ≠ b → (TJx29ce0 a).2.1 ≠ (TJx29ce0 b).2.1 := by decide +kernel
theorem tyJx29ce0_ok : ∀ k, k < 0 → parseFieldDescriptor (TJx29ce0 k).2.2.1 = some (tyJx29ce0 k) := by decide +kernel
abbrev cJx29ce0_ordinal_8abf5 : ByteArray := prog_15_method_2_code
def yJx29ce0_ordinal_8abf5 : MethodName := ⟨RJx29ce0, "ordinal", "()I"⟩
def RJxf58ca : String := "java/lang/Float"
def TJxf58ca : u_T := fun k => match k with
  | _ => ("", "", "", false)
def tyJxf58ca : Nat → FieldType := fun k => match k with
  | _ => .int
theorem nmJxf58ca : ∀ a, a < 0 → ∀ b, b < 0 → a ≠ b → (TJxf58ca a).2.1 ≠ (TJxf58ca b).2.1 := by decide +kernel
theorem tyJxf58ca_ok : ∀ k, k < 0 → parseFieldDescriptor (TJxf58ca k).2.2.1 = some (tyJxf58ca k) := by decide +kernel
abbrev cJxf58ca_isNaN_12338 : ByteArray := prog_17_method_6_code
def yJxf58ca_isNaN_12338 : MethodName := ⟨RJxf58ca, "isNaN", "(F)Z"⟩
abbrev cJxf58ca_floatToIntBits_5c35a : ByteArray := prog_17_method_24_code
def yJxf58ca_floatToIntBits_5c35a : MethodName := ⟨RJxf58ca, "floatToIntBits", "(F)I"⟩
def RJ9 : String := "java/lang/Math"
def TJ9 : u_T := fun k => match k with
  | _ => ("", "", "", false)
def tyJ9 : Nat → FieldType := fun k => match k with
  | _ => .int
abbrev wsJ90 : List Cond := u_ws RJ9 TJ9 0
theorem nmJ9 : ∀ a, a < 0 → ∀ b, b < 0 → a ≠ b → (TJ9 a).2.1 ≠ (TJ9 b).2.1 := by decide +kernel
theorem tyJ9_ok : ∀ k, k < 0 → parseFieldDescriptor (TJ9 k).2.2.1 = some (tyJ9 k) := by decide +kernel
abbrev cJ9_abs_0f7a4 : ByteArray := prog_18_method_59_code
def yJ9_abs_0f7a4 : MethodName := ⟨RJ9, "abs", "(I)I"⟩
abbrev cJ9_max_7cf53 : ByteArray := prog_18_method_65_code
def yJ9_max_7cf53 : MethodName := ⟨RJ9, "max", "(II)I"⟩
def RJxd2413 : String := "java/lang/Number"
def TJxd2413 : u_T := fun k => match k with
  | _ => ("", "", "", false)
def tyJxd2413 : Nat → FieldType := fun k => match k with
  | _ => .int
theorem nmJxd2413 : ∀ a, a < 0 → ∀ b, b < 0 → a ≠ b → (TJxd2413 a).2.1 ≠ (TJxd2413 b).2.1 := by decide +kernel
theorem tyJxd2413_ok : ∀ k, k < 0 → parseFieldDescriptor (TJxd2413 k).2.2.1 = some (tyJxd2413 k) := by decide +kernel
def RJ0 : String := "java/lang/String"
def TJ0 : u_T := fun k => match k with
  | _ => ("", "", "", false)
def tyJ0 : Nat → FieldType := fun k => match k with
  | _ => .int
abbrev wsJ00 : List Cond := u_ws RJ0 TJ0 0
theorem nmJ0 : ∀ a, a < 0 → ∀ b, b < 0 → a ≠ b → (TJ0 a).2.1 ≠ (TJ0 b).2.1 := by decide +kernel
theorem tyJ0_ok : ∀ k, k < 0 → parseFieldDescriptor (TJ0 k).2.2.1 = some (tyJ0 k) := by decide +kernel
abbrev cJ0_length_8abf5 : ByteArray := prog_21_method_54_code
def yJ0_length_8abf5 : MethodName := ⟨RJ0, "length", "()I"⟩
abbrev cJ0_charAt_5068e : ByteArray := prog_21_method_56_code
def yJ0_charAt_5068e : MethodName := ⟨RJ0, "charAt", "(I)C"⟩
abbrev cJ0_coder_7d493 : ByteArray := prog_21_method_152_code
def yJ0_coder_7d493 : MethodName := ⟨RJ0, "coder", "()B"⟩
abbrev cJ0_isLatin1_aae02 : ByteArray := prog_21_method_154_code
def yJ0_isLatin1_aae02 : MethodName := ⟨RJ0, "isLatin1", "()Z"⟩
abbrev cJ0_checkIndex_df160 : ByteArray := prog_21_method_155_code
def yJ0_checkIndex_df160 : MethodName := ⟨RJ0, "checkIndex", "(II)V"⟩
def RJ1 : String := "java/lang/StringLatin1"
def TJ1 : u_T := fun k => match k with
  | _ => ("", "", "", false)
def tyJ1 : Nat → FieldType := fun k => match k with
  | _ => .int
abbrev wsJ10 : List Cond := u_ws RJ1 TJ1 0
theorem nmJ1 : ∀ a, a < 0 → ∀ b, b < 0 → a ≠ b → (TJ1 a).2.1 ≠ (TJ1 b).2.1 := by decide +kernel
theorem tyJ1_ok : ∀ k, k < 0 → parseFieldDescriptor (TJ1 k).2.2.1 = some (tyJ1 k) := by decide +kernel
abbrev cJ1_charAt_3b067 : ByteArray := prog_22_method_2_code
def yJ1_charAt_3b067 : MethodName := ⟨RJ1, "charAt", "([BI)C"⟩
def RJ2 : String := "java/lang/StringUTF16"
def TJ2 : u_T := fun k => match k with
  | _ => ("", "", "", false)
def tyJ2 : Nat → FieldType := fun k => match k with
  | _ => .int
abbrev wsJ20 : List Cond := u_ws RJ2 TJ2 0
theorem nmJ2 : ∀ a, a < 0 → ∀ b, b < 0 → a ≠ b → (TJ2 a).2.1 ≠ (TJ2 b).2.1 := by decide +kernel
theorem tyJ2_ok : ∀ k, k < 0 → parseFieldDescriptor (TJ2 k).2.2.1 = some (tyJ2 k) := by decide +kernel
abbrev cJ2_getChar_3b067 : ByteArray := prog_23_method_5_code
def yJ2_getChar_3b067 : MethodName := ⟨RJ2, "getChar", "([BI)C"⟩
abbrev cJ2_length_9d52b : ByteArray := prog_23_method_6_code
def yJ2_length_9d52b : MethodName := ⟨RJ2, "length", "([B)I"⟩
abbrev cJ2_charAt_3b067 : ByteArray := prog_23_method_83_code
def yJ2_charAt_3b067 : MethodName := ⟨RJ2, "charAt", "([BI)C"⟩
abbrev cJ2_checkIndex_2214a : ByteArray := prog_23_method_91_code
def yJ2_checkIndex_2214a : MethodName := ⟨RJ2, "checkIndex", "(I[B)V"⟩
def RJ10 : String := "java/lang/System"
def TJ10 : u_T := fun k => match k with
  | _ => ("", "", "", false)
def tyJ10 : Nat → FieldType := fun k => match k with
  | _ => .int
abbrev wsJ100 : List Cond := u_ws RJ10 TJ10 0
theorem nmJ10 : ∀ a, a < 0 → ∀ b, b < 0 → a ≠ b → (TJ10 a).2.1 ≠ (TJ10 b).2.1 := by decide +kernel
theorem tyJ10_ok : ∀ k, k < 0 → parseFieldDescriptor (TJ10 k).2.2.1 = some (tyJ10 k) := by decide +kernel
def RJxfd54e : String := "java/lang/constant/Constable"
def TJxfd54e : u_T := fun k => match k with
  | _ => ("", "", "", false)
def tyJxfd54e : Nat → FieldType := fun k => match k with
  | _ => .int
theorem nmJxfd54e : ∀ a, a < 0 → ∀ b, b < 0 → a ≠ b → (TJxfd54e a).2.1 ≠ (TJxfd54e b).2.1 := by decide +kernel
theorem tyJxfd54e_ok : ∀ k, k < 0 → parseFieldDescriptor (TJxfd54e k).2.2.1 = some (tyJxfd54e k) := by decide +kernel
def RJx3cf43 : String := "java/lang/constant/ConstantDesc"
def TJx3cf43 : u_T := fun k => match k with
  | _ => ("", "", "", false)
def tyJx3cf43 : Nat → FieldType := fun k => match k with
  | _ => .int
theorem nmJx3cf43 : ∀ a, a < 0 → ∀ b, b < 0 → a ≠ b → (TJx3cf43 a).2.1 ≠ (TJx3cf43 b).2.1 := by decide +kernel
theorem tyJx3cf43_ok : ∀ k, k < 0 → parseFieldDescriptor (TJx3cf43 k).2.2.1 = some (tyJx3cf43 k) := by decide +kernel
def RJ3 : String := "jdk/internal/util/Preconditions"
def TJ3 : u_T := fun k => match k with
  | _ => ("", "", "", false)
def tyJ3 : Nat → FieldType := fun k => match k with
  | _ => .int
abbrev wsJ30 : List Cond := u_ws RJ3 TJ3 0
theorem nmJ3 : ∀ a, a < 0 → ∀ b, b < 0 → a ≠ b → (TJ3 a).2.1 ≠ (TJ3 b).2.1 := by decide +kernel
theorem tyJ3_ok : ∀ k, k < 0 → parseFieldDescriptor (TJ3 k).2.2.1 = some (tyJ3 k) := by decide +kernel
abbrev cJ3_checkIndex_8e157 : ByteArray := prog_29_method_11_code
def yJ3_checkIndex_8e157 : MethodName := ⟨RJ3, "checkIndex", "(IILjava/util/function/BiFunction;)I"⟩
def RL : String := "FlowGatesLaw"
abbrev cL_of : ByteArray := method_3_code
def yL_of : MethodName := ⟨RL, "of", "(LFlowGates;II[J)I"⟩
abbrev cL_law : ByteArray := code
def yL_law : MethodName := ⟨RL, "law", "([I)Z"⟩
abbrev vwCl : List vw_C := [(RX1, TX1, 4), (RX2, TX2, 4), (RX3, TX3, 5), (RX4, TX4, 2), (RX5, TX5, 7), (RX7, TX7, 9), (RX8, TX8, 5), (RX9, TX9, 17)]
end
section
theorem dX1_init_0 : decode cX1_init 0 = .ok (.aload_n 0, 1) := by decide +kernel
theorem dX1_init_1 : decode cX1_init 1 = .ok (.invokespecial 3, 3) := by decide +kernel
theorem dX1_init_4 : decode cX1_init 4 = .ok (.aload_n 0, 1) := by decide +kernel
theorem dX1_init_5 : decode cX1_init 5 = .ok (.bipush 8, 2) := by decide +kernel
theorem dX1_init_7 : decode cX1_init 7 = .ok (.newarray .int, 2) := by decide +kernel
theorem dX1_init_9 : decode cX1_init 9 = .ok (.putfield 9, 3) := by decide +kernel
theorem dX1_init_12 : decode cX1_init 12 = .ok (.aload_n 0, 1) := by decide +kernel
theorem dX1_init_13 : decode cX1_init 13 = .ok (.bipush 97, 2) := by decide +kernel
theorem dX1_init_15 : decode cX1_init 15 = .ok (.newarray .int, 2) := by decide +kernel
theorem dX1_init_17 : decode cX1_init 17 = .ok (.putfield 15, 3) := by decide +kernel
theorem dX1_init_20 : decode cX1_init 20 = .ok (.aload_n 0, 1) := by decide +kernel
theorem dX1_init_21 : decode cX1_init 21 = .ok (.new 18, 3) := by decide +kernel
theorem dX1_init_24 : decode cX1_init 24 = .ok (.dup, 1) := by decide +kernel
theorem dX1_init_25 : decode cX1_init 25 = .ok (.invokespecial 20, 3) := by decide +kernel
theorem dX1_init_28 : decode cX1_init 28 = .ok (.putfield 21, 3) := by decide +kernel
theorem dX1_init_31 : decode cX1_init 31 = .ok (.aload_n 0, 1) := by decide +kernel
theorem dX1_init_32 : decode cX1_init 32 = .ok (.iconst 0, 1) := by decide +kernel
theorem dX1_init_33 : decode cX1_init 33 = .ok (.putfield 25, 3) := by decide +kernel
theorem dX1_init_36 : decode cX1_init 36 = .ok (.return_, 1) := by decide +kernel
theorem dX1_copyFrom_0 : decode cX1_copyFrom 0 = .ok (.aload_n 1, 1) := by decide +kernel
theorem dX1_copyFrom_1 : decode cX1_copyFrom 1 = .ok (.getfield 9, 3) := by decide +kernel
theorem dX1_copyFrom_4 : decode cX1_copyFrom 4 = .ok (.iconst 0, 1) := by decide +kernel
theorem dX1_copyFrom_5 : decode cX1_copyFrom 5 = .ok (.aload_n 0, 1) := by decide +kernel
theorem dX1_copyFrom_6 : decode cX1_copyFrom 6 = .ok (.getfield 9, 3) := by decide +kernel
theorem dX1_copyFrom_9 : decode cX1_copyFrom 9 = .ok (.iconst 0, 1) := by decide +kernel
theorem dX1_copyFrom_10 : decode cX1_copyFrom 10 = .ok (.bipush 8, 2) := by decide +kernel
theorem dX1_copyFrom_12 : decode cX1_copyFrom 12 = .ok (.invokestatic 29, 3) := by decide +kernel
theorem dX1_copyFrom_15 : decode cX1_copyFrom 15 = .ok (.aload_n 1, 1) := by decide +kernel
theorem dX1_copyFrom_16 : decode cX1_copyFrom 16 = .ok (.getfield 15, 3) := by decide +kernel
theorem dX1_copyFrom_19 : decode cX1_copyFrom 19 = .ok (.iconst 0, 1) := by decide +kernel
theorem dX1_copyFrom_20 : decode cX1_copyFrom 20 = .ok (.aload_n 0, 1) := by decide +kernel
theorem dX1_copyFrom_21 : decode cX1_copyFrom 21 = .ok (.getfield 15, 3) := by decide +kernel
theorem dX1_copyFrom_24 : decode cX1_copyFrom 24 = .ok (.iconst 0, 1) := by decide +kernel
theorem dX1_copyFrom_25 : decode cX1_copyFrom 25 = .ok (.bipush 97, 2) := by decide +kernel
theorem dX1_copyFrom_27 : decode cX1_copyFrom 27 = .ok (.invokestatic 29, 3) := by decide +kernel
theorem dX1_copyFrom_30 : decode cX1_copyFrom 30 = .ok (.aload_n 0, 1) := by decide +kernel
theorem dX1_copyFrom_31 : decode cX1_copyFrom 31 = .ok (.getfield 21, 3) := by decide +kernel
theorem dX1_copyFrom_34 : decode cX1_copyFrom 34 = .ok (.aload_n 1, 1) := by decide +kernel
theorem dX1_copyFrom_35 : decode cX1_copyFrom 35 = .ok (.getfield 21, 3) := by decide +kernel
theorem dX1_copyFrom_38 : decode cX1_copyFrom 38 = .ok (.invokevirtual 35, 3) := by decide +kernel
theorem dX1_copyFrom_41 : decode cX1_copyFrom 41 = .ok (.aload_n 0, 1) := by decide +kernel
theorem dX1_copyFrom_42 : decode cX1_copyFrom 42 = .ok (.aload_n 1, 1) := by decide +kernel
theorem dX1_copyFrom_43 : decode cX1_copyFrom 43 = .ok (.getfield 25, 3) := by decide +kernel
theorem dX1_copyFrom_46 : decode cX1_copyFrom 46 = .ok (.putfield 25, 3) := by decide +kernel
theorem dX1_copyFrom_49 : decode cX1_copyFrom 49 = .ok (.return_, 1) := by decide +kernel
theorem dX1_ups_0 : decode cX1_ups 0 = .ok (.iconst 0, 1) := by decide +kernel
theorem dX1_ups_1 : decode cX1_ups 1 = .ok (.istore_n 1, 1) := by decide +kernel
theorem dX1_ups_2 : decode cX1_ups 2 = .ok (.iconst 0, 1) := by decide +kernel
theorem dX1_ups_3 : decode cX1_ups 3 = .ok (.istore_n 2, 1) := by decide +kernel
theorem dX1_ups_4 : decode cX1_ups 4 = .ok (.iload_n 2, 1) := by decide +kernel
theorem dX1_ups_5 : decode cX1_ups 5 = .ok (.bipush 8, 2) := by decide +kernel
theorem dX1_ups_7 : decode cX1_ups 7 = .ok (.if_icmp .ge 25, 3) := by decide +kernel
theorem dX1_ups_10 : decode cX1_ups 10 = .ok (.aload_n 0, 1) := by decide +kernel
theorem dX1_ups_11 : decode cX1_ups 11 = .ok (.getfield 9, 3) := by decide +kernel
theorem dX1_ups_14 : decode cX1_ups 14 = .ok (.iload_n 2, 1) := by decide +kernel
theorem dX1_ups_15 : decode cX1_ups 15 = .ok (.iaload, 1) := by decide +kernel
theorem dX1_ups_16 : decode cX1_ups 16 = .ok (.iconst 1, 1) := by decide +kernel
theorem dX1_ups_17 : decode cX1_ups 17 = .ok (.if_icmp .ne 9, 3) := by decide +kernel
theorem dX1_ups_20 : decode cX1_ups 20 = .ok (.iload_n 1, 1) := by decide +kernel
theorem dX1_ups_21 : decode cX1_ups 21 = .ok (.iconst 1, 1) := by decide +kernel
theorem dX1_ups_22 : decode cX1_ups 22 = .ok (.iload_n 2, 1) := by decide +kernel
theorem dX1_ups_23 : decode cX1_ups 23 = .ok (.ishl, 1) := by decide +kernel
theorem dX1_ups_24 : decode cX1_ups 24 = .ok (.ior, 1) := by decide +kernel
theorem dX1_ups_25 : decode cX1_ups 25 = .ok (.istore_n 1, 1) := by decide +kernel
theorem dX1_ups_26 : decode cX1_ups 26 = .ok (.iinc 2 1, 3) := by decide +kernel
theorem dX1_ups_29 : decode cX1_ups 29 = .ok (.goto (-25), 3) := by decide +kernel
theorem dX1_ups_32 : decode cX1_ups 32 = .ok (.iload_n 1, 1) := by decide +kernel
theorem dX1_ups_33 : decode cX1_ups 33 = .ok (.ireturn, 1) := by decide +kernel
theorem dX1_knownGoal_0 : decode cX1_knownGoal 0 = .ok (.aload_n 0, 1) := by decide +kernel
theorem dX1_knownGoal_1 : decode cX1_knownGoal 1 = .ok (.getfield 21, 3) := by decide +kernel
theorem dX1_knownGoal_4 : decode cX1_knownGoal 4 = .ok (.iload_n 1, 1) := by decide +kernel
theorem dX1_knownGoal_5 : decode cX1_knownGoal 5 = .ok (.invokevirtual 39, 3) := by decide +kernel
theorem dX1_knownGoal_8 : decode cX1_knownGoal 8 = .ok (.istore_n 2, 1) := by decide +kernel
theorem dX1_knownGoal_9 : decode cX1_knownGoal 9 = .ok (.iload_n 2, 1) := by decide +kernel
theorem dX1_knownGoal_10 : decode cX1_knownGoal 10 = .ok (.iconst (-1), 1) := by decide +kernel
theorem dX1_knownGoal_11 : decode cX1_knownGoal 11 = .ok (.if_icmp .eq 20, 3) := by decide +kernel
theorem dX1_knownGoal_14 : decode cX1_knownGoal 14 = .ok (.aload_n 0, 1) := by decide +kernel
theorem dX1_knownGoal_15 : decode cX1_knownGoal 15 = .ok (.getfield 9, 3) := by decide +kernel
theorem dX1_knownGoal_18 : decode cX1_knownGoal 18 = .ok (.aload_n 0, 1) := by decide +kernel
theorem dX1_knownGoal_19 : decode cX1_knownGoal 19 = .ok (.getfield 21, 3) := by decide +kernel
theorem dX1_knownGoal_22 : decode cX1_knownGoal 22 = .ok (.getfield 43, 3) := by decide +kernel
theorem dX1_knownGoal_25 : decode cX1_knownGoal 25 = .ok (.iload_n 2, 1) := by decide +kernel
theorem dX1_knownGoal_26 : decode cX1_knownGoal 26 = .ok (.iaload, 1) := by decide +kernel
theorem dX1_knownGoal_27 : decode cX1_knownGoal 27 = .ok (.iaload, 1) := by decide +kernel
theorem dX1_knownGoal_28 : decode cX1_knownGoal 28 = .ok (.ifCond .ne 5, 3) := by decide +kernel
theorem dX1_knownGoal_31 : decode cX1_knownGoal 31 = .ok (.iconst (-1), 1) := by decide +kernel
theorem dX1_knownGoal_32 : decode cX1_knownGoal 32 = .ok (.ireturn, 1) := by decide +kernel
theorem dX1_knownGoal_33 : decode cX1_knownGoal 33 = .ok (.aload_n 0, 1) := by decide +kernel
theorem dX1_knownGoal_34 : decode cX1_knownGoal 34 = .ok (.getfield 21, 3) := by decide +kernel
theorem dX1_knownGoal_37 : decode cX1_knownGoal 37 = .ok (.getfield 43, 3) := by decide +kernel
theorem dX1_knownGoal_40 : decode cX1_knownGoal 40 = .ok (.iload_n 2, 1) := by decide +kernel
theorem dX1_knownGoal_41 : decode cX1_knownGoal 41 = .ok (.iaload, 1) := by decide +kernel
theorem dX1_knownGoal_42 : decode cX1_knownGoal 42 = .ok (.ireturn, 1) := by decide +kernel
theorem dX2_init_0 : decode cX2_init 0 = .ok (.aload_n 0, 1) := by decide +kernel
theorem dX2_init_1 : decode cX2_init 1 = .ok (.invokespecial 3, 3) := by decide +kernel
theorem dX2_init_4 : decode cX2_init 4 = .ok (.aload_n 0, 1) := by decide +kernel
theorem dX2_init_5 : decode cX2_init 5 = .ok (.bipush 16, 2) := by decide +kernel
theorem dX2_init_7 : decode cX2_init 7 = .ok (.newarray .int, 2) := by decide +kernel
theorem dX2_init_9 : decode cX2_init 9 = .ok (.putfield 9, 3) := by decide +kernel
theorem dX2_init_12 : decode cX2_init 12 = .ok (.aload_n 0, 1) := by decide +kernel
theorem dX2_init_13 : decode cX2_init 13 = .ok (.bipush 16, 2) := by decide +kernel
theorem dX2_init_15 : decode cX2_init 15 = .ok (.newarray .int, 2) := by decide +kernel
theorem dX2_init_17 : decode cX2_init 17 = .ok (.putfield 15, 3) := by decide +kernel
theorem dX2_init_20 : decode cX2_init 20 = .ok (.aload_n 0, 1) := by decide +kernel
theorem dX2_init_21 : decode cX2_init 21 = .ok (.bipush 16, 2) := by decide +kernel
theorem dX2_init_23 : decode cX2_init 23 = .ok (.newarray .int, 2) := by decide +kernel
theorem dX2_init_25 : decode cX2_init 25 = .ok (.putfield 18, 3) := by decide +kernel
theorem dX2_init_28 : decode cX2_init 28 = .ok (.aload_n 0, 1) := by decide +kernel
theorem dX2_init_29 : decode cX2_init 29 = .ok (.iconst 0, 1) := by decide +kernel
theorem dX2_init_30 : decode cX2_init 30 = .ok (.putfield 21, 3) := by decide +kernel
theorem dX2_init_33 : decode cX2_init 33 = .ok (.return_, 1) := by decide +kernel
theorem dX2_copyFrom_0 : decode cX2_copyFrom 0 = .ok (.aload_n 1, 1) := by decide +kernel
theorem dX2_copyFrom_1 : decode cX2_copyFrom 1 = .ok (.getfield 9, 3) := by decide +kernel
theorem dX2_copyFrom_4 : decode cX2_copyFrom 4 = .ok (.iconst 0, 1) := by decide +kernel
theorem dX2_copyFrom_5 : decode cX2_copyFrom 5 = .ok (.aload_n 0, 1) := by decide +kernel
theorem dX2_copyFrom_6 : decode cX2_copyFrom 6 = .ok (.getfield 9, 3) := by decide +kernel
theorem dX2_copyFrom_9 : decode cX2_copyFrom 9 = .ok (.iconst 0, 1) := by decide +kernel
theorem dX2_copyFrom_10 : decode cX2_copyFrom 10 = .ok (.bipush 16, 2) := by decide +kernel
theorem dX2_copyFrom_12 : decode cX2_copyFrom 12 = .ok (.invokestatic 25, 3) := by decide +kernel
theorem dX2_copyFrom_15 : decode cX2_copyFrom 15 = .ok (.aload_n 1, 1) := by decide +kernel
theorem dX2_copyFrom_16 : decode cX2_copyFrom 16 = .ok (.getfield 15, 3) := by decide +kernel
theorem dX2_copyFrom_19 : decode cX2_copyFrom 19 = .ok (.iconst 0, 1) := by decide +kernel
theorem dX2_copyFrom_20 : decode cX2_copyFrom 20 = .ok (.aload_n 0, 1) := by decide +kernel
theorem dX2_copyFrom_21 : decode cX2_copyFrom 21 = .ok (.getfield 15, 3) := by decide +kernel
theorem dX2_copyFrom_24 : decode cX2_copyFrom 24 = .ok (.iconst 0, 1) := by decide +kernel
theorem dX2_copyFrom_25 : decode cX2_copyFrom 25 = .ok (.bipush 16, 2) := by decide +kernel
theorem dX2_copyFrom_27 : decode cX2_copyFrom 27 = .ok (.invokestatic 25, 3) := by decide +kernel
theorem dX2_copyFrom_30 : decode cX2_copyFrom 30 = .ok (.aload_n 1, 1) := by decide +kernel
theorem dX2_copyFrom_31 : decode cX2_copyFrom 31 = .ok (.getfield 18, 3) := by decide +kernel
theorem dX2_copyFrom_34 : decode cX2_copyFrom 34 = .ok (.iconst 0, 1) := by decide +kernel
theorem dX2_copyFrom_35 : decode cX2_copyFrom 35 = .ok (.aload_n 0, 1) := by decide +kernel
theorem dX2_copyFrom_36 : decode cX2_copyFrom 36 = .ok (.getfield 18, 3) := by decide +kernel
theorem dX2_copyFrom_39 : decode cX2_copyFrom 39 = .ok (.iconst 0, 1) := by decide +kernel
theorem dX2_copyFrom_40 : decode cX2_copyFrom 40 = .ok (.bipush 16, 2) := by decide +kernel
theorem dX2_copyFrom_42 : decode cX2_copyFrom 42 = .ok (.invokestatic 25, 3) := by decide +kernel
theorem dX2_copyFrom_45 : decode cX2_copyFrom 45 = .ok (.aload_n 0, 1) := by decide +kernel
theorem dX2_copyFrom_46 : decode cX2_copyFrom 46 = .ok (.aload_n 1, 1) := by decide +kernel
theorem dX2_copyFrom_47 : decode cX2_copyFrom 47 = .ok (.getfield 21, 3) := by decide +kernel
theorem dX2_copyFrom_50 : decode cX2_copyFrom 50 = .ok (.putfield 21, 3) := by decide +kernel
theorem dX2_copyFrom_53 : decode cX2_copyFrom 53 = .ok (.return_, 1) := by decide +kernel
theorem dX2_find_0 : decode cX2_find 0 = .ok (.iconst 0, 1) := by decide +kernel
theorem dX2_find_1 : decode cX2_find 1 = .ok (.istore_n 2, 1) := by decide +kernel
theorem dX2_find_2 : decode cX2_find 2 = .ok (.iload_n 2, 1) := by decide +kernel
theorem dX2_find_3 : decode cX2_find 3 = .ok (.aload_n 0, 1) := by decide +kernel
theorem dX2_find_4 : decode cX2_find 4 = .ok (.getfield 21, 3) := by decide +kernel
theorem dX2_find_7 : decode cX2_find 7 = .ok (.if_icmp .ge 21, 3) := by decide +kernel
theorem dX2_find_10 : decode cX2_find 10 = .ok (.aload_n 0, 1) := by decide +kernel
theorem dX2_find_11 : decode cX2_find 11 = .ok (.getfield 9, 3) := by decide +kernel
theorem dX2_find_14 : decode cX2_find 14 = .ok (.iload_n 2, 1) := by decide +kernel
theorem dX2_find_15 : decode cX2_find 15 = .ok (.iaload, 1) := by decide +kernel
theorem dX2_find_16 : decode cX2_find 16 = .ok (.iload_n 1, 1) := by decide +kernel
theorem dX2_find_17 : decode cX2_find 17 = .ok (.if_icmp .ne 5, 3) := by decide +kernel
theorem dX2_find_20 : decode cX2_find 20 = .ok (.iload_n 2, 1) := by decide +kernel
theorem dX2_find_21 : decode cX2_find 21 = .ok (.ireturn, 1) := by decide +kernel
theorem dX2_find_22 : decode cX2_find 22 = .ok (.iinc 2 1, 3) := by decide +kernel
theorem dX2_find_25 : decode cX2_find 25 = .ok (.goto (-23), 3) := by decide +kernel
theorem dX2_find_28 : decode cX2_find 28 = .ok (.iconst (-1), 1) := by decide +kernel
theorem dX2_find_29 : decode cX2_find 29 = .ok (.ireturn, 1) := by decide +kernel
theorem dX2_put_0 : decode cX2_put 0 = .ok (.aload_n 0, 1) := by decide +kernel
theorem dX2_put_1 : decode cX2_put 1 = .ok (.iload_n 1, 1) := by decide +kernel
theorem dX2_put_2 : decode cX2_put 2 = .ok (.invokevirtual 31, 3) := by decide +kernel
theorem dX2_put_5 : decode cX2_put 5 = .ok (.istore 5, 2) := by decide +kernel
theorem dX2_put_7 : decode cX2_put 7 = .ok (.iload 5, 2) := by decide +kernel
theorem dX2_put_9 : decode cX2_put 9 = .ok (.iconst (-1), 1) := by decide +kernel
theorem dX2_put_10 : decode cX2_put 10 = .ok (.if_icmp .ne 18, 3) := by decide +kernel
theorem dX2_put_13 : decode cX2_put 13 = .ok (.aload_n 0, 1) := by decide +kernel
theorem dX2_put_14 : decode cX2_put 14 = .ok (.iload 4, 2) := by decide +kernel
theorem dX2_put_16 : decode cX2_put 16 = .ok (.iconst 1, 1) := by decide +kernel
theorem dX2_put_17 : decode cX2_put 17 = .ok (.isub, 1) := by decide +kernel
theorem dX2_put_18 : decode cX2_put 18 = .ok (.invokevirtual 35, 3) := by decide +kernel
theorem dX2_put_21 : decode cX2_put 21 = .ok (.aload_n 0, 1) := by decide +kernel
theorem dX2_put_22 : decode cX2_put 22 = .ok (.iload_n 1, 1) := by decide +kernel
theorem dX2_put_23 : decode cX2_put 23 = .ok (.invokevirtual 39, 3) := by decide +kernel
theorem dX2_put_26 : decode cX2_put 26 = .ok (.istore 5, 2) := by decide +kernel
theorem dX2_put_28 : decode cX2_put 28 = .ok (.aload_n 0, 1) := by decide +kernel
theorem dX2_put_29 : decode cX2_put 29 = .ok (.getfield 15, 3) := by decide +kernel
theorem dX2_put_32 : decode cX2_put 32 = .ok (.iload 5, 2) := by decide +kernel
theorem dX2_put_34 : decode cX2_put 34 = .ok (.iload_n 2, 1) := by decide +kernel
theorem dX2_put_35 : decode cX2_put 35 = .ok (.iastore, 1) := by decide +kernel
theorem dX2_put_36 : decode cX2_put 36 = .ok (.aload_n 0, 1) := by decide +kernel
theorem dX2_put_37 : decode cX2_put 37 = .ok (.getfield 18, 3) := by decide +kernel
theorem dX2_put_40 : decode cX2_put 40 = .ok (.iload 5, 2) := by decide +kernel
theorem dX2_put_42 : decode cX2_put 42 = .ok (.iload_n 3, 1) := by decide +kernel
theorem dX2_put_43 : decode cX2_put 43 = .ok (.iastore, 1) := by decide +kernel
theorem dX2_put_44 : decode cX2_put 44 = .ok (.return_, 1) := by decide +kernel
theorem dX2_openAt_0 : decode cX2_openAt 0 = .ok (.aload_n 0, 1) := by decide +kernel
theorem dX2_openAt_1 : decode cX2_openAt 1 = .ok (.getfield 21, 3) := by decide +kernel
theorem dX2_openAt_4 : decode cX2_openAt 4 = .ok (.istore_n 2, 1) := by decide +kernel
theorem dX2_openAt_5 : decode cX2_openAt 5 = .ok (.aload_n 0, 1) := by decide +kernel
theorem dX2_openAt_6 : decode cX2_openAt 6 = .ok (.getfield 21, 3) := by decide +kernel
theorem dX2_openAt_9 : decode cX2_openAt 9 = .ok (.istore_n 3, 1) := by decide +kernel
theorem dX2_openAt_10 : decode cX2_openAt 10 = .ok (.iload_n 3, 1) := by decide +kernel
theorem dX2_openAt_11 : decode cX2_openAt 11 = .ok (.ifCond .le 33, 3) := by decide +kernel
theorem dX2_openAt_14 : decode cX2_openAt 14 = .ok (.aload_n 0, 1) := by decide +kernel
theorem dX2_openAt_15 : decode cX2_openAt 15 = .ok (.getfield 9, 3) := by decide +kernel
theorem dX2_openAt_18 : decode cX2_openAt 18 = .ok (.iload_n 3, 1) := by decide +kernel
theorem dX2_openAt_19 : decode cX2_openAt 19 = .ok (.iconst 1, 1) := by decide +kernel
theorem dX2_openAt_20 : decode cX2_openAt 20 = .ok (.isub, 1) := by decide +kernel
theorem dX2_openAt_21 : decode cX2_openAt 21 = .ok (.iaload, 1) := by decide +kernel
theorem dX2_openAt_22 : decode cX2_openAt 22 = .ok (.iload_n 1, 1) := by decide +kernel
theorem dX2_openAt_23 : decode cX2_openAt 23 = .ok (.if_icmp .le 21, 3) := by decide +kernel
theorem dX2_openAt_26 : decode cX2_openAt 26 = .ok (.aload_n 0, 1) := by decide +kernel
theorem dX2_openAt_27 : decode cX2_openAt 27 = .ok (.iload_n 3, 1) := by decide +kernel
theorem dX2_openAt_28 : decode cX2_openAt 28 = .ok (.iconst 1, 1) := by decide +kernel
theorem dX2_openAt_29 : decode cX2_openAt 29 = .ok (.isub, 1) := by decide +kernel
theorem dX2_openAt_30 : decode cX2_openAt 30 = .ok (.iload_n 3, 1) := by decide +kernel
theorem dX2_openAt_31 : decode cX2_openAt 31 = .ok (.invokevirtual 42, 3) := by decide +kernel
theorem dX2_openAt_34 : decode cX2_openAt 34 = .ok (.iload_n 3, 1) := by decide +kernel
theorem dX2_openAt_35 : decode cX2_openAt 35 = .ok (.iconst 1, 1) := by decide +kernel
theorem dX2_openAt_36 : decode cX2_openAt 36 = .ok (.isub, 1) := by decide +kernel
theorem dX2_openAt_37 : decode cX2_openAt 37 = .ok (.istore_n 2, 1) := by decide +kernel
theorem dX2_openAt_38 : decode cX2_openAt 38 = .ok (.iinc 3 (-1), 3) := by decide +kernel
theorem dX2_openAt_41 : decode cX2_openAt 41 = .ok (.goto (-31), 3) := by decide +kernel
theorem dX2_openAt_44 : decode cX2_openAt 44 = .ok (.aload_n 0, 1) := by decide +kernel
theorem dX2_openAt_45 : decode cX2_openAt 45 = .ok (.getfield 9, 3) := by decide +kernel
theorem dX2_openAt_48 : decode cX2_openAt 48 = .ok (.iload_n 2, 1) := by decide +kernel
theorem dX2_openAt_49 : decode cX2_openAt 49 = .ok (.iload_n 1, 1) := by decide +kernel
theorem dX2_openAt_50 : decode cX2_openAt 50 = .ok (.iastore, 1) := by decide +kernel
theorem dX2_openAt_51 : decode cX2_openAt 51 = .ok (.aload_n 0, 1) := by decide +kernel
theorem dX2_openAt_52 : decode cX2_openAt 52 = .ok (.dup, 1) := by decide +kernel
theorem dX2_openAt_53 : decode cX2_openAt 53 = .ok (.getfield 21, 3) := by decide +kernel
theorem dX2_openAt_56 : decode cX2_openAt 56 = .ok (.iconst 1, 1) := by decide +kernel
theorem dX2_openAt_57 : decode cX2_openAt 57 = .ok (.iadd, 1) := by decide +kernel
theorem dX2_openAt_58 : decode cX2_openAt 58 = .ok (.putfield 21, 3) := by decide +kernel
theorem dX2_openAt_61 : decode cX2_openAt 61 = .ok (.iload_n 2, 1) := by decide +kernel
theorem dX2_openAt_62 : decode cX2_openAt 62 = .ok (.ireturn, 1) := by decide +kernel
theorem dX2_drop_0 : decode cX2_drop 0 = .ok (.iload_n 1, 1) := by decide +kernel
theorem dX2_drop_1 : decode cX2_drop 1 = .ok (.iconst 1, 1) := by decide +kernel
theorem dX2_drop_2 : decode cX2_drop 2 = .ok (.iadd, 1) := by decide +kernel
theorem dX2_drop_3 : decode cX2_drop 3 = .ok (.istore_n 2, 1) := by decide +kernel
theorem dX2_drop_4 : decode cX2_drop 4 = .ok (.iload_n 2, 1) := by decide +kernel
theorem dX2_drop_5 : decode cX2_drop 5 = .ok (.aload_n 0, 1) := by decide +kernel
theorem dX2_drop_6 : decode cX2_drop 6 = .ok (.getfield 21, 3) := by decide +kernel
theorem dX2_drop_9 : decode cX2_drop 9 = .ok (.if_icmp .ge 17, 3) := by decide +kernel
theorem dX2_drop_12 : decode cX2_drop 12 = .ok (.aload_n 0, 1) := by decide +kernel
theorem dX2_drop_13 : decode cX2_drop 13 = .ok (.iload_n 2, 1) := by decide +kernel
theorem dX2_drop_14 : decode cX2_drop 14 = .ok (.iload_n 2, 1) := by decide +kernel
theorem dX2_drop_15 : decode cX2_drop 15 = .ok (.iconst 1, 1) := by decide +kernel
theorem dX2_drop_16 : decode cX2_drop 16 = .ok (.isub, 1) := by decide +kernel
theorem dX2_drop_17 : decode cX2_drop 17 = .ok (.invokevirtual 42, 3) := by decide +kernel
theorem dX2_drop_20 : decode cX2_drop 20 = .ok (.iinc 2 1, 3) := by decide +kernel
theorem dX2_drop_23 : decode cX2_drop 23 = .ok (.goto (-19), 3) := by decide +kernel
theorem dX2_drop_26 : decode cX2_drop 26 = .ok (.aload_n 0, 1) := by decide +kernel
theorem dX2_drop_27 : decode cX2_drop 27 = .ok (.dup, 1) := by decide +kernel
theorem dX2_drop_28 : decode cX2_drop 28 = .ok (.getfield 21, 3) := by decide +kernel
theorem dX2_drop_31 : decode cX2_drop 31 = .ok (.iconst 1, 1) := by decide +kernel
theorem dX2_drop_32 : decode cX2_drop 32 = .ok (.isub, 1) := by decide +kernel
theorem dX2_drop_33 : decode cX2_drop 33 = .ok (.putfield 21, 3) := by decide +kernel
theorem dX2_drop_36 : decode cX2_drop 36 = .ok (.return_, 1) := by decide +kernel
theorem dX2_move_0 : decode cX2_move 0 = .ok (.aload_n 0, 1) := by decide +kernel
theorem dX2_move_1 : decode cX2_move 1 = .ok (.getfield 9, 3) := by decide +kernel
theorem dX2_move_4 : decode cX2_move 4 = .ok (.iload_n 2, 1) := by decide +kernel
theorem dX2_move_5 : decode cX2_move 5 = .ok (.aload_n 0, 1) := by decide +kernel
theorem dX2_move_6 : decode cX2_move 6 = .ok (.getfield 9, 3) := by decide +kernel
theorem dX2_move_9 : decode cX2_move 9 = .ok (.iload_n 1, 1) := by decide +kernel
theorem dX2_move_10 : decode cX2_move 10 = .ok (.iaload, 1) := by decide +kernel
theorem dX2_move_11 : decode cX2_move 11 = .ok (.iastore, 1) := by decide +kernel
theorem dX2_move_12 : decode cX2_move 12 = .ok (.aload_n 0, 1) := by decide +kernel
theorem dX2_move_13 : decode cX2_move 13 = .ok (.getfield 15, 3) := by decide +kernel
theorem dX2_move_16 : decode cX2_move 16 = .ok (.iload_n 2, 1) := by decide +kernel
theorem dX2_move_17 : decode cX2_move 17 = .ok (.aload_n 0, 1) := by decide +kernel
theorem dX2_move_18 : decode cX2_move 18 = .ok (.getfield 15, 3) := by decide +kernel
theorem dX2_move_21 : decode cX2_move 21 = .ok (.iload_n 1, 1) := by decide +kernel
theorem dX2_move_22 : decode cX2_move 22 = .ok (.iaload, 1) := by decide +kernel
theorem dX2_move_23 : decode cX2_move 23 = .ok (.iastore, 1) := by decide +kernel
theorem dX2_move_24 : decode cX2_move 24 = .ok (.aload_n 0, 1) := by decide +kernel
theorem dX2_move_25 : decode cX2_move 25 = .ok (.getfield 18, 3) := by decide +kernel
theorem dX2_move_28 : decode cX2_move 28 = .ok (.iload_n 2, 1) := by decide +kernel
theorem dX2_move_29 : decode cX2_move 29 = .ok (.aload_n 0, 1) := by decide +kernel
theorem dX2_move_30 : decode cX2_move 30 = .ok (.getfield 18, 3) := by decide +kernel
theorem dX2_move_33 : decode cX2_move 33 = .ok (.iload_n 1, 1) := by decide +kernel
theorem dX2_move_34 : decode cX2_move 34 = .ok (.iaload, 1) := by decide +kernel
theorem dX2_move_35 : decode cX2_move 35 = .ok (.iastore, 1) := by decide +kernel
theorem dX2_move_36 : decode cX2_move 36 = .ok (.return_, 1) := by decide +kernel
theorem dX2_shrinkTo_0 : decode cX2_shrinkTo 0 = .ok (.iconst 0, 1) := by decide +kernel
theorem dX2_shrinkTo_1 : decode cX2_shrinkTo 1 = .ok (.istore_n 2, 1) := by decide +kernel
theorem dX2_shrinkTo_2 : decode cX2_shrinkTo 2 = .ok (.iload_n 2, 1) := by decide +kernel
theorem dX2_shrinkTo_3 : decode cX2_shrinkTo 3 = .ok (.bipush 16, 2) := by decide +kernel
theorem dX2_shrinkTo_5 : decode cX2_shrinkTo 5 = .ok (.if_icmp .ge 25, 3) := by decide +kernel
theorem dX2_shrinkTo_8 : decode cX2_shrinkTo 8 = .ok (.aload_n 0, 1) := by decide +kernel
theorem dX2_shrinkTo_9 : decode cX2_shrinkTo 9 = .ok (.getfield 21, 3) := by decide +kernel
theorem dX2_shrinkTo_12 : decode cX2_shrinkTo 12 = .ok (.iload_n 1, 1) := by decide +kernel
theorem dX2_shrinkTo_13 : decode cX2_shrinkTo 13 = .ok (.if_icmp .le 17, 3) := by decide +kernel
theorem dX2_shrinkTo_16 : decode cX2_shrinkTo 16 = .ok (.aload_n 0, 1) := by decide +kernel
theorem dX2_shrinkTo_17 : decode cX2_shrinkTo 17 = .ok (.aload_n 0, 1) := by decide +kernel
theorem dX2_shrinkTo_18 : decode cX2_shrinkTo 18 = .ok (.invokevirtual 46, 3) := by decide +kernel
theorem dX2_shrinkTo_21 : decode cX2_shrinkTo 21 = .ok (.invokevirtual 50, 3) := by decide +kernel
theorem dX2_shrinkTo_24 : decode cX2_shrinkTo 24 = .ok (.iinc 2 1, 3) := by decide +kernel
theorem dX2_shrinkTo_27 : decode cX2_shrinkTo 27 = .ok (.goto (-25), 3) := by decide +kernel
theorem dX2_shrinkTo_30 : decode cX2_shrinkTo 30 = .ok (.return_, 1) := by decide +kernel
theorem dX2_eldest_0 : decode cX2_eldest 0 = .ok (.iconst 0, 1) := by decide +kernel
theorem dX2_eldest_1 : decode cX2_eldest 1 = .ok (.istore_n 1, 1) := by decide +kernel
theorem dX2_eldest_2 : decode cX2_eldest 2 = .ok (.iconst 1, 1) := by decide +kernel
theorem dX2_eldest_3 : decode cX2_eldest 3 = .ok (.istore_n 2, 1) := by decide +kernel
theorem dX2_eldest_4 : decode cX2_eldest 4 = .ok (.iload_n 2, 1) := by decide +kernel
theorem dX2_eldest_5 : decode cX2_eldest 5 = .ok (.aload_n 0, 1) := by decide +kernel
theorem dX2_eldest_6 : decode cX2_eldest 6 = .ok (.getfield 21, 3) := by decide +kernel
theorem dX2_eldest_9 : decode cX2_eldest 9 = .ok (.if_icmp .ge 26, 3) := by decide +kernel
theorem dX2_eldest_12 : decode cX2_eldest 12 = .ok (.aload_n 0, 1) := by decide +kernel
theorem dX2_eldest_13 : decode cX2_eldest 13 = .ok (.getfield 18, 3) := by decide +kernel
theorem dX2_eldest_16 : decode cX2_eldest 16 = .ok (.iload_n 2, 1) := by decide +kernel
theorem dX2_eldest_17 : decode cX2_eldest 17 = .ok (.iaload, 1) := by decide +kernel
theorem dX2_eldest_18 : decode cX2_eldest 18 = .ok (.aload_n 0, 1) := by decide +kernel
theorem dX2_eldest_19 : decode cX2_eldest 19 = .ok (.getfield 18, 3) := by decide +kernel
theorem dX2_eldest_22 : decode cX2_eldest 22 = .ok (.iload_n 1, 1) := by decide +kernel
theorem dX2_eldest_23 : decode cX2_eldest 23 = .ok (.iaload, 1) := by decide +kernel
theorem dX2_eldest_24 : decode cX2_eldest 24 = .ok (.if_icmp .ge 5, 3) := by decide +kernel
theorem dX2_eldest_27 : decode cX2_eldest 27 = .ok (.iload_n 2, 1) := by decide +kernel
theorem dX2_eldest_28 : decode cX2_eldest 28 = .ok (.istore_n 1, 1) := by decide +kernel
theorem dX2_eldest_29 : decode cX2_eldest 29 = .ok (.iinc 2 1, 3) := by decide +kernel
theorem dX2_eldest_32 : decode cX2_eldest 32 = .ok (.goto (-28), 3) := by decide +kernel
theorem dX2_eldest_35 : decode cX2_eldest 35 = .ok (.iload_n 1, 1) := by decide +kernel
theorem dX2_eldest_36 : decode cX2_eldest 36 = .ok (.ireturn, 1) := by decide +kernel
theorem dX2_dropBefore_0 : decode cX2_dropBefore 0 = .ok (.aload_n 0, 1) := by decide +kernel
theorem dX2_dropBefore_1 : decode cX2_dropBefore 1 = .ok (.getfield 21, 3) := by decide +kernel
theorem dX2_dropBefore_4 : decode cX2_dropBefore 4 = .ok (.iconst 1, 1) := by decide +kernel
theorem dX2_dropBefore_5 : decode cX2_dropBefore 5 = .ok (.isub, 1) := by decide +kernel
theorem dX2_dropBefore_6 : decode cX2_dropBefore 6 = .ok (.istore_n 2, 1) := by decide +kernel
theorem dX2_dropBefore_7 : decode cX2_dropBefore 7 = .ok (.iload_n 2, 1) := by decide +kernel
theorem dX2_dropBefore_8 : decode cX2_dropBefore 8 = .ok (.ifCond .lt 24, 3) := by decide +kernel
theorem dX2_dropBefore_11 : decode cX2_dropBefore 11 = .ok (.aload_n 0, 1) := by decide +kernel
theorem dX2_dropBefore_12 : decode cX2_dropBefore 12 = .ok (.getfield 18, 3) := by decide +kernel
theorem dX2_dropBefore_15 : decode cX2_dropBefore 15 = .ok (.iload_n 2, 1) := by decide +kernel
theorem dX2_dropBefore_16 : decode cX2_dropBefore 16 = .ok (.iaload, 1) := by decide +kernel
theorem dX2_dropBefore_17 : decode cX2_dropBefore 17 = .ok (.iload_n 1, 1) := by decide +kernel
theorem dX2_dropBefore_18 : decode cX2_dropBefore 18 = .ok (.if_icmp .ge 8, 3) := by decide +kernel
theorem dX2_dropBefore_21 : decode cX2_dropBefore 21 = .ok (.aload_n 0, 1) := by decide +kernel
theorem dX2_dropBefore_22 : decode cX2_dropBefore 22 = .ok (.iload_n 2, 1) := by decide +kernel
theorem dX2_dropBefore_23 : decode cX2_dropBefore 23 = .ok (.invokevirtual 50, 3) := by decide +kernel
theorem dX2_dropBefore_26 : decode cX2_dropBefore 26 = .ok (.iinc 2 (-1), 3) := by decide +kernel
theorem dX2_dropBefore_29 : decode cX2_dropBefore 29 = .ok (.goto (-22), 3) := by decide +kernel
theorem dX2_dropBefore_32 : decode cX2_dropBefore 32 = .ok (.return_, 1) := by decide +kernel
theorem dX2_countTo_0 : decode cX2_countTo 0 = .ok (.iconst 0, 1) := by decide +kernel
theorem dX2_countTo_1 : decode cX2_countTo 1 = .ok (.istore_n 2, 1) := by decide +kernel
theorem dX2_countTo_2 : decode cX2_countTo 2 = .ok (.iconst 0, 1) := by decide +kernel
theorem dX2_countTo_3 : decode cX2_countTo 3 = .ok (.istore_n 3, 1) := by decide +kernel
theorem dX2_countTo_4 : decode cX2_countTo 4 = .ok (.iload_n 3, 1) := by decide +kernel
theorem dX2_countTo_5 : decode cX2_countTo 5 = .ok (.aload_n 0, 1) := by decide +kernel
theorem dX2_countTo_6 : decode cX2_countTo 6 = .ok (.getfield 21, 3) := by decide +kernel
theorem dX2_countTo_9 : decode cX2_countTo 9 = .ok (.if_icmp .ge 22, 3) := by decide +kernel
theorem dX2_countTo_12 : decode cX2_countTo 12 = .ok (.aload_n 0, 1) := by decide +kernel
theorem dX2_countTo_13 : decode cX2_countTo 13 = .ok (.getfield 15, 3) := by decide +kernel
theorem dX2_countTo_16 : decode cX2_countTo 16 = .ok (.iload_n 3, 1) := by decide +kernel
theorem dX2_countTo_17 : decode cX2_countTo 17 = .ok (.iaload, 1) := by decide +kernel
theorem dX2_countTo_18 : decode cX2_countTo 18 = .ok (.iload_n 1, 1) := by decide +kernel
theorem dX2_countTo_19 : decode cX2_countTo 19 = .ok (.if_icmp .ne 6, 3) := by decide +kernel
theorem dX2_countTo_22 : decode cX2_countTo 22 = .ok (.iinc 2 1, 3) := by decide +kernel
theorem dX2_countTo_25 : decode cX2_countTo 25 = .ok (.iinc 3 1, 3) := by decide +kernel
theorem dX2_countTo_28 : decode cX2_countTo 28 = .ok (.goto (-24), 3) := by decide +kernel
theorem dX2_countTo_31 : decode cX2_countTo 31 = .ok (.iload_n 2, 1) := by decide +kernel
theorem dX2_countTo_32 : decode cX2_countTo 32 = .ok (.ireturn, 1) := by decide +kernel
theorem dX2_latestTo_0 : decode cX2_latestTo 0 = .ok (.iconst (-1), 1) := by decide +kernel
theorem dX2_latestTo_1 : decode cX2_latestTo 1 = .ok (.istore_n 2, 1) := by decide +kernel
theorem dX2_latestTo_2 : decode cX2_latestTo 2 = .ok (.iconst 0, 1) := by decide +kernel
theorem dX2_latestTo_3 : decode cX2_latestTo 3 = .ok (.istore_n 3, 1) := by decide +kernel
theorem dX2_latestTo_4 : decode cX2_latestTo 4 = .ok (.iload_n 3, 1) := by decide +kernel
theorem dX2_latestTo_5 : decode cX2_latestTo 5 = .ok (.aload_n 0, 1) := by decide +kernel
theorem dX2_latestTo_6 : decode cX2_latestTo 6 = .ok (.getfield 21, 3) := by decide +kernel
theorem dX2_latestTo_9 : decode cX2_latestTo 9 = .ok (.if_icmp .ge 30, 3) := by decide +kernel
theorem dX2_latestTo_12 : decode cX2_latestTo 12 = .ok (.aload_n 0, 1) := by decide +kernel
theorem dX2_latestTo_13 : decode cX2_latestTo 13 = .ok (.getfield 15, 3) := by decide +kernel
theorem dX2_latestTo_16 : decode cX2_latestTo 16 = .ok (.iload_n 3, 1) := by decide +kernel
theorem dX2_latestTo_17 : decode cX2_latestTo 17 = .ok (.iaload, 1) := by decide +kernel
theorem dX2_latestTo_18 : decode cX2_latestTo 18 = .ok (.iload_n 1, 1) := by decide +kernel
theorem dX2_latestTo_19 : decode cX2_latestTo 19 = .ok (.if_icmp .ne 14, 3) := by decide +kernel
theorem dX2_latestTo_22 : decode cX2_latestTo 22 = .ok (.iload_n 2, 1) := by decide +kernel
theorem dX2_latestTo_23 : decode cX2_latestTo 23 = .ok (.aload_n 0, 1) := by decide +kernel
theorem dX2_latestTo_24 : decode cX2_latestTo 24 = .ok (.getfield 18, 3) := by decide +kernel
theorem dX2_latestTo_27 : decode cX2_latestTo 27 = .ok (.iload_n 3, 1) := by decide +kernel
theorem dX2_latestTo_28 : decode cX2_latestTo 28 = .ok (.iaload, 1) := by decide +kernel
theorem dX2_latestTo_29 : decode cX2_latestTo 29 = .ok (.invokestatic 53, 3) := by decide +kernel
theorem dX2_latestTo_32 : decode cX2_latestTo 32 = .ok (.istore_n 2, 1) := by decide +kernel
theorem dX2_latestTo_33 : decode cX2_latestTo 33 = .ok (.iinc 3 1, 3) := by decide +kernel
theorem dX2_latestTo_36 : decode cX2_latestTo 36 = .ok (.goto (-32), 3) := by decide +kernel
theorem dX2_latestTo_39 : decode cX2_latestTo 39 = .ok (.iload_n 2, 1) := by decide +kernel
theorem dX2_latestTo_40 : decode cX2_latestTo 40 = .ok (.ireturn, 1) := by decide +kernel
theorem dX3_init_0 : decode cX3_init 0 = .ok (.aload_n 0, 1) := by decide +kernel
theorem dX3_init_1 : decode cX3_init 1 = .ok (.invokespecial 3, 3) := by decide +kernel
theorem dX3_init_4 : decode cX3_init 4 = .ok (.aload_n 0, 1) := by decide +kernel
theorem dX3_init_5 : decode cX3_init 5 = .ok (.bipush 97, 2) := by decide +kernel
theorem dX3_init_7 : decode cX3_init 7 = .ok (.newarray .int, 2) := by decide +kernel
theorem dX3_init_9 : decode cX3_init 9 = .ok (.putfield 9, 3) := by decide +kernel
theorem dX3_init_12 : decode cX3_init 12 = .ok (.aload_n 0, 1) := by decide +kernel
theorem dX3_init_13 : decode cX3_init 13 = .ok (.bipush 97, 2) := by decide +kernel
theorem dX3_init_15 : decode cX3_init 15 = .ok (.newarray .int, 2) := by decide +kernel
theorem dX3_init_17 : decode cX3_init 17 = .ok (.putfield 15, 3) := by decide +kernel
theorem dX3_init_20 : decode cX3_init 20 = .ok (.aload_n 0, 1) := by decide +kernel
theorem dX3_init_21 : decode cX3_init 21 = .ok (.bipush 8, 2) := by decide +kernel
theorem dX3_init_23 : decode cX3_init 23 = .ok (.newarray .int, 2) := by decide +kernel
theorem dX3_init_25 : decode cX3_init 25 = .ok (.putfield 18, 3) := by decide +kernel
theorem dX3_init_28 : decode cX3_init 28 = .ok (.aload_n 0, 1) := by decide +kernel
theorem dX3_init_29 : decode cX3_init 29 = .ok (.bipush 8, 2) := by decide +kernel
theorem dX3_init_31 : decode cX3_init 31 = .ok (.newarray .int, 2) := by decide +kernel
theorem dX3_init_33 : decode cX3_init 33 = .ok (.putfield 21, 3) := by decide +kernel
theorem dX3_init_36 : decode cX3_init 36 = .ok (.aload_n 0, 1) := by decide +kernel
theorem dX3_init_37 : decode cX3_init 37 = .ok (.bipush 8, 2) := by decide +kernel
theorem dX3_init_39 : decode cX3_init 39 = .ok (.newarray .int, 2) := by decide +kernel
theorem dX3_init_41 : decode cX3_init 41 = .ok (.putfield 24, 3) := by decide +kernel
theorem dX3_init_44 : decode cX3_init 44 = .ok (.return_, 1) := by decide +kernel
theorem dX3_make_0 : decode cX3_make 0 = .ok (.aload_n 0, 1) := by decide +kernel
theorem dX3_make_1 : decode cX3_make 1 = .ok (.aload_n 1, 1) := by decide +kernel
theorem dX3_make_2 : decode cX3_make 2 = .ok (.aload_n 2, 1) := by decide +kernel
theorem dX3_make_3 : decode cX3_make 3 = .ok (.iload_n 3, 1) := by decide +kernel
theorem dX3_make_4 : decode cX3_make 4 = .ok (.iload 4, 2) := by decide +kernel
theorem dX3_make_6 : decode cX3_make 6 = .ok (.invokevirtual 27, 3) := by decide +kernel
theorem dX3_make_9 : decode cX3_make 9 = .ok (.istore 5, 2) := by decide +kernel
theorem dX3_make_11 : decode cX3_make 11 = .ok (.iload 5, 2) := by decide +kernel
theorem dX3_make_13 : decode cX3_make 13 = .ok (.ifCond .ne 7, 3) := by decide +kernel
theorem dX3_make_16 : decode cX3_make 16 = .ok (.iconst 0, 1) := by decide +kernel
theorem dX3_make_17 : decode cX3_make 17 = .ok (.goto 5, 3) := by decide +kernel
theorem dX3_make_20 : decode cX3_make 20 = .ok (.iload 4, 2) := by decide +kernel
theorem dX3_make_22 : decode cX3_make 22 = .ok (.istore 6, 2) := by decide +kernel
theorem dX3_make_24 : decode cX3_make 24 = .ok (.iconst 0, 1) := by decide +kernel
theorem dX3_make_25 : decode cX3_make 25 = .ok (.istore 7, 2) := by decide +kernel
theorem dX3_make_27 : decode cX3_make 27 = .ok (.iload 7, 2) := by decide +kernel
theorem dX3_make_29 : decode cX3_make 29 = .ok (.iload 4, 2) := by decide +kernel
theorem dX3_make_31 : decode cX3_make 31 = .ok (.if_icmp .ge 99, 3) := by decide +kernel
theorem dX3_make_34 : decode cX3_make 34 = .ok (.iload 6, 2) := by decide +kernel
theorem dX3_make_36 : decode cX3_make 36 = .ok (.ifCond .le 94, 3) := by decide +kernel
theorem dX3_make_39 : decode cX3_make 39 = .ok (.iconst 0, 1) := by decide +kernel
theorem dX3_make_40 : decode cX3_make 40 = .ok (.istore 8, 2) := by decide +kernel
theorem dX3_make_42 : decode cX3_make 42 = .ok (.iload 8, 2) := by decide +kernel
theorem dX3_make_44 : decode cX3_make 44 = .ok (.aload_n 2, 1) := by decide +kernel
theorem dX3_make_45 : decode cX3_make 45 = .ok (.getfield 31, 3) := by decide +kernel
theorem dX3_make_48 : decode cX3_make 48 = .ok (.if_icmp .ge 76, 3) := by decide +kernel
theorem dX3_make_51 : decode cX3_make 51 = .ok (.iload 6, 2) := by decide +kernel
theorem dX3_make_53 : decode cX3_make 53 = .ok (.ifCond .le 71, 3) := by decide +kernel
theorem dX3_make_56 : decode cX3_make 56 = .ok (.iload_n 3, 1) := by decide +kernel
theorem dX3_make_57 : decode cX3_make 57 = .ok (.iload 8, 2) := by decide +kernel
theorem dX3_make_59 : decode cX3_make 59 = .ok (.invokestatic 37, 3) := by decide +kernel
theorem dX3_make_62 : decode cX3_make 62 = .ok (.ifCond .eq 56, 3) := by decide +kernel
theorem dX3_make_65 : decode cX3_make 65 = .ok (.aload_n 0, 1) := by decide +kernel
theorem dX3_make_66 : decode cX3_make 66 = .ok (.getfield 24, 3) := by decide +kernel
theorem dX3_make_69 : decode cX3_make 69 = .ok (.iload 8, 2) := by decide +kernel
theorem dX3_make_71 : decode cX3_make 71 = .ok (.dup2, 1) := by decide +kernel
theorem dX3_make_72 : decode cX3_make 72 = .ok (.iaload, 1) := by decide +kernel
theorem dX3_make_73 : decode cX3_make 73 = .ok (.aload_n 2, 1) := by decide +kernel
theorem dX3_make_74 : decode cX3_make 74 = .ok (.getfield 41, 3) := by decide +kernel
theorem dX3_make_77 : decode cX3_make 77 = .ok (.iload 8, 2) := by decide +kernel
theorem dX3_make_79 : decode cX3_make 79 = .ok (.iaload, 1) := by decide +kernel
theorem dX3_make_80 : decode cX3_make 80 = .ok (.iadd, 1) := by decide +kernel
theorem dX3_make_81 : decode cX3_make 81 = .ok (.iastore, 1) := by decide +kernel
theorem dX3_make_82 : decode cX3_make 82 = .ok (.aload_n 0, 1) := by decide +kernel
theorem dX3_make_83 : decode cX3_make 83 = .ok (.getfield 24, 3) := by decide +kernel
theorem dX3_make_86 : decode cX3_make 86 = .ok (.iload 8, 2) := by decide +kernel
theorem dX3_make_88 : decode cX3_make 88 = .ok (.iaload, 1) := by decide +kernel
theorem dX3_make_89 : decode cX3_make 89 = .ok (.iload 5, 2) := by decide +kernel
theorem dX3_make_91 : decode cX3_make 91 = .ok (.if_icmp .lt 27, 3) := by decide +kernel
theorem dX3_make_94 : decode cX3_make 94 = .ok (.aload_n 0, 1) := by decide +kernel
theorem dX3_make_95 : decode cX3_make 95 = .ok (.getfield 24, 3) := by decide +kernel
theorem dX3_make_98 : decode cX3_make 98 = .ok (.iload 8, 2) := by decide +kernel
theorem dX3_make_100 : decode cX3_make 100 = .ok (.dup2, 1) := by decide +kernel
theorem dX3_make_101 : decode cX3_make 101 = .ok (.iaload, 1) := by decide +kernel
theorem dX3_make_102 : decode cX3_make 102 = .ok (.iload 5, 2) := by decide +kernel
theorem dX3_make_104 : decode cX3_make 104 = .ok (.isub, 1) := by decide +kernel
theorem dX3_make_105 : decode cX3_make 105 = .ok (.iastore, 1) := by decide +kernel
theorem dX3_make_106 : decode cX3_make 106 = .ok (.aload_n 0, 1) := by decide +kernel
theorem dX3_make_107 : decode cX3_make 107 = .ok (.aload_n 1, 1) := by decide +kernel
theorem dX3_make_108 : decode cX3_make 108 = .ok (.iload 8, 2) := by decide +kernel
theorem dX3_make_110 : decode cX3_make 110 = .ok (.iload 4, 2) := by decide +kernel
theorem dX3_make_112 : decode cX3_make 112 = .ok (.invokevirtual 44, 3) := by decide +kernel
theorem dX3_make_115 : decode cX3_make 115 = .ok (.iinc 6 (-1), 3) := by decide +kernel
theorem dX3_make_118 : decode cX3_make 118 = .ok (.iinc 8 1, 3) := by decide +kernel
theorem dX3_make_121 : decode cX3_make 121 = .ok (.goto (-79), 3) := by decide +kernel
theorem dX3_make_124 : decode cX3_make 124 = .ok (.iinc 7 1, 3) := by decide +kernel
theorem dX3_make_127 : decode cX3_make 127 = .ok (.goto (-100), 3) := by decide +kernel
theorem dX3_make_130 : decode cX3_make 130 = .ok (.return_, 1) := by decide +kernel
theorem dX3_start_0 : decode cX3_start 0 = .ok (.iconst 0, 1) := by decide +kernel
theorem dX3_start_1 : decode cX3_start 1 = .ok (.istore 5, 2) := by decide +kernel
theorem dX3_start_3 : decode cX3_start 3 = .ok (.iload 5, 2) := by decide +kernel
theorem dX3_start_5 : decode cX3_start 5 = .ok (.iload 4, 2) := by decide +kernel
theorem dX3_start_7 : decode cX3_start 7 = .ok (.if_icmp .ge 14, 3) := by decide +kernel
theorem dX3_start_10 : decode cX3_start 10 = .ok (.aload_n 1, 1) := by decide +kernel
theorem dX3_start_11 : decode cX3_start 11 = .ok (.iload 5, 2) := by decide +kernel
theorem dX3_start_13 : decode cX3_start 13 = .ok (.iconst (-1), 1) := by decide +kernel
theorem dX3_start_14 : decode cX3_start 14 = .ok (.iastore, 1) := by decide +kernel
theorem dX3_start_15 : decode cX3_start 15 = .ok (.iinc 5 1, 3) := by decide +kernel
theorem dX3_start_18 : decode cX3_start 18 = .ok (.goto (-15), 3) := by decide +kernel
theorem dX3_start_21 : decode cX3_start 21 = .ok (.iconst 0, 1) := by decide +kernel
theorem dX3_start_22 : decode cX3_start 22 = .ok (.istore 5, 2) := by decide +kernel
theorem dX3_start_24 : decode cX3_start 24 = .ok (.iconst 0, 1) := by decide +kernel
theorem dX3_start_25 : decode cX3_start 25 = .ok (.istore 6, 2) := by decide +kernel
theorem dX3_start_27 : decode cX3_start 27 = .ok (.iload 6, 2) := by decide +kernel
theorem dX3_start_29 : decode cX3_start 29 = .ok (.aload_n 2, 1) := by decide +kernel
theorem dX3_start_30 : decode cX3_start 30 = .ok (.getfield 31, 3) := by decide +kernel
theorem dX3_start_33 : decode cX3_start 33 = .ok (.if_icmp .ge 78, 3) := by decide +kernel
theorem dX3_start_36 : decode cX3_start 36 = .ok (.iload_n 3, 1) := by decide +kernel
theorem dX3_start_37 : decode cX3_start 37 = .ok (.iload 6, 2) := by decide +kernel
theorem dX3_start_39 : decode cX3_start 39 = .ok (.invokestatic 37, 3) := by decide +kernel
theorem dX3_start_42 : decode cX3_start 42 = .ok (.ifCond .eq 63, 3) := by decide +kernel
theorem dX3_start_45 : decode cX3_start 45 = .ok (.aload_n 0, 1) := by decide +kernel
theorem dX3_start_46 : decode cX3_start 46 = .ok (.getfield 18, 3) := by decide +kernel
theorem dX3_start_49 : decode cX3_start 49 = .ok (.iload 6, 2) := by decide +kernel
theorem dX3_start_51 : decode cX3_start 51 = .ok (.aload_n 2, 1) := by decide +kernel
theorem dX3_start_52 : decode cX3_start 52 = .ok (.getfield 48, 3) := by decide +kernel
theorem dX3_start_55 : decode cX3_start 55 = .ok (.iload 6, 2) := by decide +kernel
theorem dX3_start_57 : decode cX3_start 57 = .ok (.iaload, 1) := by decide +kernel
theorem dX3_start_58 : decode cX3_start 58 = .ok (.iload 4, 2) := by decide +kernel
theorem dX3_start_60 : decode cX3_start 60 = .ok (.invokestatic 51, 3) := by decide +kernel
theorem dX3_start_63 : decode cX3_start 63 = .ok (.iastore, 1) := by decide +kernel
theorem dX3_start_64 : decode cX3_start 64 = .ok (.aload_n 0, 1) := by decide +kernel
theorem dX3_start_65 : decode cX3_start 65 = .ok (.getfield 21, 3) := by decide +kernel
theorem dX3_start_68 : decode cX3_start 68 = .ok (.iload 6, 2) := by decide +kernel
theorem dX3_start_70 : decode cX3_start 70 = .ok (.aload_n 2, 1) := by decide +kernel
theorem dX3_start_71 : decode cX3_start 71 = .ok (.getfield 48, 3) := by decide +kernel
theorem dX3_start_74 : decode cX3_start 74 = .ok (.iload 6, 2) := by decide +kernel
theorem dX3_start_76 : decode cX3_start 76 = .ok (.iaload, 1) := by decide +kernel
theorem dX3_start_77 : decode cX3_start 77 = .ok (.iload 4, 2) := by decide +kernel
theorem dX3_start_79 : decode cX3_start 79 = .ok (.invokestatic 55, 3) := by decide +kernel
theorem dX3_start_82 : decode cX3_start 82 = .ok (.iastore, 1) := by decide +kernel
theorem dX3_start_83 : decode cX3_start 83 = .ok (.aload_n 0, 1) := by decide +kernel
theorem dX3_start_84 : decode cX3_start 84 = .ok (.getfield 24, 3) := by decide +kernel
theorem dX3_start_87 : decode cX3_start 87 = .ok (.iload 6, 2) := by decide +kernel
theorem dX3_start_89 : decode cX3_start 89 = .ok (.iconst 0, 1) := by decide +kernel
theorem dX3_start_90 : decode cX3_start 90 = .ok (.iastore, 1) := by decide +kernel
theorem dX3_start_91 : decode cX3_start 91 = .ok (.iload 5, 2) := by decide +kernel
theorem dX3_start_93 : decode cX3_start 93 = .ok (.aload_n 2, 1) := by decide +kernel
theorem dX3_start_94 : decode cX3_start 94 = .ok (.getfield 41, 3) := by decide +kernel
theorem dX3_start_97 : decode cX3_start 97 = .ok (.iload 6, 2) := by decide +kernel
theorem dX3_start_99 : decode cX3_start 99 = .ok (.iaload, 1) := by decide +kernel
theorem dX3_start_100 : decode cX3_start 100 = .ok (.invokestatic 58, 3) := by decide +kernel
theorem dX3_start_103 : decode cX3_start 103 = .ok (.istore 5, 2) := by decide +kernel
theorem dX3_start_105 : decode cX3_start 105 = .ok (.iinc 6 1, 3) := by decide +kernel
theorem dX3_start_108 : decode cX3_start 108 = .ok (.goto (-81), 3) := by decide +kernel
theorem dX3_start_111 : decode cX3_start 111 = .ok (.iload 5, 2) := by decide +kernel
theorem dX3_start_113 : decode cX3_start 113 = .ok (.ireturn, 1) := by decide +kernel
theorem dX3_take_0 : decode cX3_take 0 = .ok (.aload_n 0, 1) := by decide +kernel
theorem dX3_take_1 : decode cX3_take 1 = .ok (.getfield 18, 3) := by decide +kernel
theorem dX3_take_4 : decode cX3_take 4 = .ok (.iload_n 2, 1) := by decide +kernel
theorem dX3_take_5 : decode cX3_take 5 = .ok (.iaload, 1) := by decide +kernel
theorem dX3_take_6 : decode cX3_take 6 = .ok (.istore 4, 2) := by decide +kernel
theorem dX3_take_8 : decode cX3_take 8 = .ok (.iconst 0, 1) := by decide +kernel
theorem dX3_take_9 : decode cX3_take 9 = .ok (.istore 5, 2) := by decide +kernel
theorem dX3_take_11 : decode cX3_take 11 = .ok (.iload 5, 2) := by decide +kernel
theorem dX3_take_13 : decode cX3_take 13 = .ok (.iload_n 3, 1) := by decide +kernel
theorem dX3_take_14 : decode cX3_take 14 = .ok (.if_icmp .ge 32, 3) := by decide +kernel
theorem dX3_take_17 : decode cX3_take 17 = .ok (.aload_n 1, 1) := by decide +kernel
theorem dX3_take_18 : decode cX3_take 18 = .ok (.iload 4, 2) := by decide +kernel
theorem dX3_take_20 : decode cX3_take 20 = .ok (.iaload, 1) := by decide +kernel
theorem dX3_take_21 : decode cX3_take 21 = .ok (.iconst (-1), 1) := by decide +kernel
theorem dX3_take_22 : decode cX3_take 22 = .ok (.if_icmp .eq 24, 3) := by decide +kernel
theorem dX3_take_25 : decode cX3_take 25 = .ok (.iload 4, 2) := by decide +kernel
theorem dX3_take_27 : decode cX3_take 27 = .ok (.aload_n 0, 1) := by decide +kernel
theorem dX3_take_28 : decode cX3_take 28 = .ok (.getfield 21, 3) := by decide +kernel
theorem dX3_take_31 : decode cX3_take 31 = .ok (.iload_n 2, 1) := by decide +kernel
theorem dX3_take_32 : decode cX3_take 32 = .ok (.iaload, 1) := by decide +kernel
theorem dX3_take_33 : decode cX3_take 33 = .ok (.iadd, 1) := by decide +kernel
theorem dX3_take_34 : decode cX3_take 34 = .ok (.iload_n 3, 1) := by decide +kernel
theorem dX3_take_35 : decode cX3_take 35 = .ok (.invokestatic 63, 3) := by decide +kernel
theorem dX3_take_38 : decode cX3_take 38 = .ok (.istore 4, 2) := by decide +kernel
theorem dX3_take_40 : decode cX3_take 40 = .ok (.iinc 5 1, 3) := by decide +kernel
theorem dX3_take_43 : decode cX3_take 43 = .ok (.goto (-32), 3) := by decide +kernel
theorem dX3_take_46 : decode cX3_take 46 = .ok (.aload_n 1, 1) := by decide +kernel
theorem dX3_take_47 : decode cX3_take 47 = .ok (.iload 4, 2) := by decide +kernel
theorem dX3_take_49 : decode cX3_take 49 = .ok (.iload_n 2, 1) := by decide +kernel
theorem dX3_take_50 : decode cX3_take 50 = .ok (.iastore, 1) := by decide +kernel
theorem dX3_take_51 : decode cX3_take 51 = .ok (.aload_n 0, 1) := by decide +kernel
theorem dX3_take_52 : decode cX3_take 52 = .ok (.getfield 18, 3) := by decide +kernel
theorem dX3_take_55 : decode cX3_take 55 = .ok (.iload_n 2, 1) := by decide +kernel
theorem dX3_take_56 : decode cX3_take 56 = .ok (.iload 4, 2) := by decide +kernel
theorem dX3_take_58 : decode cX3_take 58 = .ok (.iastore, 1) := by decide +kernel
theorem dX3_take_59 : decode cX3_take 59 = .ok (.return_, 1) := by decide +kernel
theorem dX4_init_0 : decode cX4_init 0 = .ok (.aload_n 0, 1) := by decide +kernel
theorem dX4_init_1 : decode cX4_init 1 = .ok (.invokespecial 3, 3) := by decide +kernel
theorem dX4_init_4 : decode cX4_init 4 = .ok (.aload_n 0, 1) := by decide +kernel
theorem dX4_init_5 : decode cX4_init 5 = .ok (.sipush 400, 3) := by decide +kernel
theorem dX4_init_8 : decode cX4_init 8 = .ok (.newarray .int, 2) := by decide +kernel
theorem dX4_init_10 : decode cX4_init 10 = .ok (.putfield 9, 3) := by decide +kernel
theorem dX4_init_13 : decode cX4_init 13 = .ok (.aload_n 0, 1) := by decide +kernel
theorem dX4_init_14 : decode cX4_init 14 = .ok (.iconst 0, 1) := by decide +kernel
theorem dX4_init_15 : decode cX4_init 15 = .ok (.putfield 15, 3) := by decide +kernel
theorem dX4_init_18 : decode cX4_init 18 = .ok (.return_, 1) := by decide +kernel
theorem dX4_add_0 : decode cX4_add 0 = .ok (.bipush 24, 2) := by decide +kernel
theorem dX4_add_2 : decode cX4_add 2 = .ok (.istore_n 2, 1) := by decide +kernel
theorem dX4_add_3 : decode cX4_add 3 = .ok (.iload_n 2, 1) := by decide +kernel
theorem dX4_add_4 : decode cX4_add 4 = .ok (.ifCond .lt 47, 3) := by decide +kernel
theorem dX4_add_7 : decode cX4_add 7 = .ok (.aload_n 0, 1) := by decide +kernel
theorem dX4_add_8 : decode cX4_add 8 = .ok (.getfield 15, 3) := by decide +kernel
theorem dX4_add_11 : decode cX4_add 11 = .ok (.aload_n 0, 1) := by decide +kernel
theorem dX4_add_12 : decode cX4_add 12 = .ok (.getfield 9, 3) := by decide +kernel
theorem dX4_add_15 : decode cX4_add 15 = .ok (.arraylength, 1) := by decide +kernel
theorem dX4_add_16 : decode cX4_add 16 = .ok (.if_icmp .ge 35, 3) := by decide +kernel
theorem dX4_add_19 : decode cX4_add 19 = .ok (.aload_n 0, 1) := by decide +kernel
theorem dX4_add_20 : decode cX4_add 20 = .ok (.getfield 9, 3) := by decide +kernel
theorem dX4_add_23 : decode cX4_add 23 = .ok (.aload_n 0, 1) := by decide +kernel
theorem dX4_add_24 : decode cX4_add 24 = .ok (.getfield 15, 3) := by decide +kernel
theorem dX4_add_27 : decode cX4_add 27 = .ok (.iload_n 1, 1) := by decide +kernel
theorem dX4_add_28 : decode cX4_add 28 = .ok (.iload_n 2, 1) := by decide +kernel
theorem dX4_add_29 : decode cX4_add 29 = .ok (.iushr, 1) := by decide +kernel
theorem dX4_add_30 : decode cX4_add 30 = .ok (.sipush 255, 3) := by decide +kernel
theorem dX4_add_33 : decode cX4_add 33 = .ok (.iand, 1) := by decide +kernel
theorem dX4_add_34 : decode cX4_add 34 = .ok (.iastore, 1) := by decide +kernel
theorem dX4_add_35 : decode cX4_add 35 = .ok (.aload_n 0, 1) := by decide +kernel
theorem dX4_add_36 : decode cX4_add 36 = .ok (.dup, 1) := by decide +kernel
theorem dX4_add_37 : decode cX4_add 37 = .ok (.getfield 15, 3) := by decide +kernel
theorem dX4_add_40 : decode cX4_add 40 = .ok (.iconst 1, 1) := by decide +kernel
theorem dX4_add_41 : decode cX4_add 41 = .ok (.iadd, 1) := by decide +kernel
theorem dX4_add_42 : decode cX4_add 42 = .ok (.putfield 15, 3) := by decide +kernel
theorem dX4_add_45 : decode cX4_add 45 = .ok (.iinc 2 (-8), 3) := by decide +kernel
theorem dX4_add_48 : decode cX4_add 48 = .ok (.goto (-45), 3) := by decide +kernel
theorem dX4_add_51 : decode cX4_add 51 = .ok (.return_, 1) := by decide +kernel
theorem dX5_init_0 : decode cX5_init 0 = .ok (.aload_n 0, 1) := by decide +kernel
theorem dX5_init_1 : decode cX5_init 1 = .ok (.invokespecial 3, 3) := by decide +kernel
theorem dX5_init_4 : decode cX5_init 4 = .ok (.aload_n 0, 1) := by decide +kernel
theorem dX5_init_5 : decode cX5_init 5 = .ok (.iconst 0, 1) := by decide +kernel
theorem dX5_init_6 : decode cX5_init 6 = .ok (.putfield 9, 3) := by decide +kernel
theorem dX5_init_9 : decode cX5_init 9 = .ok (.aload_n 0, 1) := by decide +kernel
theorem dX5_init_10 : decode cX5_init 10 = .ok (.getstatic 15, 3) := by decide +kernel
theorem dX5_init_13 : decode cX5_init 13 = .ok (.putfield 21, 3) := by decide +kernel
theorem dX5_init_16 : decode cX5_init 16 = .ok (.aload_n 0, 1) := by decide +kernel
theorem dX5_init_17 : decode cX5_init 17 = .ok (.iconst 3, 1) := by decide +kernel
theorem dX5_init_18 : decode cX5_init 18 = .ok (.newarray .int, 2) := by decide +kernel
theorem dX5_init_20 : decode cX5_init 20 = .ok (.putfield 24, 3) := by decide +kernel
theorem dX5_init_23 : decode cX5_init 23 = .ok (.aload_n 0, 1) := by decide +kernel
theorem dX5_init_24 : decode cX5_init 24 = .ok (.iconst 0, 1) := by decide +kernel
theorem dX5_init_25 : decode cX5_init 25 = .ok (.putfield 28, 3) := by decide +kernel
theorem dX5_init_28 : decode cX5_init 28 = .ok (.aload_n 0, 1) := by decide +kernel
theorem dX5_init_29 : decode cX5_init 29 = .ok (.iconst 0, 1) := by decide +kernel
theorem dX5_init_30 : decode cX5_init 30 = .ok (.putfield 31, 3) := by decide +kernel
theorem dX5_init_33 : decode cX5_init 33 = .ok (.aload_n 0, 1) := by decide +kernel
theorem dX5_init_34 : decode cX5_init 34 = .ok (.iconst 0, 1) := by decide +kernel
theorem dX5_init_35 : decode cX5_init 35 = .ok (.putfield 34, 3) := by decide +kernel
theorem dX5_init_38 : decode cX5_init 38 = .ok (.aload_n 0, 1) := by decide +kernel
theorem dX5_init_39 : decode cX5_init 39 = .ok (.aload_n 1, 1) := by decide +kernel
theorem dX5_init_40 : decode cX5_init 40 = .ok (.putfield 37, 3) := by decide +kernel
theorem dX5_init_43 : decode cX5_init 43 = .ok (.return_, 1) := by decide +kernel
theorem dX5_begin_0 : decode cX5_begin 0 = .ok (.aload_n 0, 1) := by decide +kernel
theorem dX5_begin_1 : decode cX5_begin 1 = .ok (.iconst 0, 1) := by decide +kernel
theorem dX5_begin_2 : decode cX5_begin 2 = .ok (.putfield 9, 3) := by decide +kernel
theorem dX5_begin_5 : decode cX5_begin 5 = .ok (.aload_n 0, 1) := by decide +kernel
theorem dX5_begin_6 : decode cX5_begin 6 = .ok (.iconst 0, 1) := by decide +kernel
theorem dX5_begin_7 : decode cX5_begin 7 = .ok (.putfield 34, 3) := by decide +kernel
theorem dX5_begin_10 : decode cX5_begin 10 = .ok (.aload_n 0, 1) := by decide +kernel
theorem dX5_begin_11 : decode cX5_begin 11 = .ok (.invokevirtual 41, 3) := by decide +kernel
theorem dX5_begin_14 : decode cX5_begin 14 = .ok (.return_, 1) := by decide +kernel
theorem dX5_hasMore_0 : decode cX5_hasMore 0 = .ok (.aload_n 0, 1) := by decide +kernel
theorem dX5_hasMore_1 : decode cX5_hasMore 1 = .ok (.getfield 9, 3) := by decide +kernel
theorem dX5_hasMore_4 : decode cX5_hasMore 4 = .ok (.ifCond .ne 14, 3) := by decide +kernel
theorem dX5_hasMore_7 : decode cX5_hasMore 7 = .ok (.aload_n 0, 1) := by decide +kernel
theorem dX5_hasMore_8 : decode cX5_hasMore 8 = .ok (.getfield 28, 3) := by decide +kernel
theorem dX5_hasMore_11 : decode cX5_hasMore 11 = .ok (.ifCond .eq 7, 3) := by decide +kernel
theorem dX5_hasMore_14 : decode cX5_hasMore 14 = .ok (.iconst 1, 1) := by decide +kernel
theorem dX5_hasMore_15 : decode cX5_hasMore 15 = .ok (.goto 4, 3) := by decide +kernel
theorem dX5_hasMore_18 : decode cX5_hasMore 18 = .ok (.iconst 0, 1) := by decide +kernel
theorem dX5_hasMore_19 : decode cX5_hasMore 19 = .ok (.ireturn, 1) := by decide +kernel
theorem dX5_reads_0 : decode cX5_reads 0 = .ok (.aload_n 0, 1) := by decide +kernel
theorem dX5_reads_1 : decode cX5_reads 1 = .ok (.getfield 31, 3) := by decide +kernel
theorem dX5_reads_4 : decode cX5_reads 4 = .ok (.istore_n 2, 1) := by decide +kernel
theorem dX5_reads_5 : decode cX5_reads 5 = .ok (.aload_n 0, 1) := by decide +kernel
theorem dX5_reads_6 : decode cX5_reads 6 = .ok (.invokevirtual 44, 3) := by decide +kernel
theorem dX5_reads_9 : decode cX5_reads 9 = .ok (.ifCond .ne 12, 3) := by decide +kernel
theorem dX5_reads_12 : decode cX5_reads 12 = .ok (.aload_n 0, 1) := by decide +kernel
theorem dX5_reads_13 : decode cX5_reads 13 = .ok (.iconst 1, 1) := by decide +kernel
theorem dX5_reads_14 : decode cX5_reads 14 = .ok (.iload_n 2, 1) := by decide +kernel
theorem dX5_reads_15 : decode cX5_reads 15 = .ok (.invokevirtual 48, 3) := by decide +kernel
theorem dX5_reads_18 : decode cX5_reads 18 = .ok (.goto 28, 3) := by decide +kernel
theorem dX5_reads_21 : decode cX5_reads 21 = .ok (.aload_n 0, 1) := by decide +kernel
theorem dX5_reads_22 : decode cX5_reads 22 = .ok (.getfield 21, 3) := by decide +kernel
theorem dX5_reads_25 : decode cX5_reads 25 = .ok (.getstatic 52, 3) := by decide +kernel
theorem dX5_reads_28 : decode cX5_reads 28 = .ok (.if_acmp .ne 18, 3) := by decide +kernel
theorem dX5_reads_31 : decode cX5_reads 31 = .ok (.aload_n 1, 1) := by decide +kernel
theorem dX5_reads_32 : decode cX5_reads 32 = .ok (.getfield 55, 3) := by decide +kernel
theorem dX5_reads_35 : decode cX5_reads 35 = .ok (.bipush 8, 2) := by decide +kernel
theorem dX5_reads_37 : decode cX5_reads 37 = .ok (.if_icmp .lt 9, 3) := by decide +kernel
theorem dX5_reads_40 : decode cX5_reads 40 = .ok (.aload_n 0, 1) := by decide +kernel
theorem dX5_reads_41 : decode cX5_reads 41 = .ok (.iconst 3, 1) := by decide +kernel
theorem dX5_reads_42 : decode cX5_reads 42 = .ok (.iload_n 2, 1) := by decide +kernel
theorem dX5_reads_43 : decode cX5_reads 43 = .ok (.invokevirtual 48, 3) := by decide +kernel
theorem dX5_reads_46 : decode cX5_reads 46 = .ok (.iconst 0, 1) := by decide +kernel
theorem dX5_reads_47 : decode cX5_reads 47 = .ok (.istore_n 3, 1) := by decide +kernel
theorem dX5_reads_48 : decode cX5_reads 48 = .ok (.iload_n 3, 1) := by decide +kernel
theorem dX5_reads_49 : decode cX5_reads 49 = .ok (.aload_n 0, 1) := by decide +kernel
theorem dX5_reads_50 : decode cX5_reads 50 = .ok (.getfield 21, 3) := by decide +kernel
theorem dX5_reads_53 : decode cX5_reads 53 = .ok (.getfield 60, 3) := by decide +kernel
theorem dX5_reads_56 : decode cX5_reads 56 = .ok (.invokevirtual 64, 3) := by decide +kernel
theorem dX5_reads_59 : decode cX5_reads 59 = .ok (.if_icmp .ge 47, 3) := by decide +kernel
theorem dX5_reads_62 : decode cX5_reads 62 = .ok (.iload_n 3, 1) := by decide +kernel
theorem dX5_reads_63 : decode cX5_reads 63 = .ok (.aload_n 0, 1) := by decide +kernel
theorem dX5_reads_64 : decode cX5_reads 64 = .ok (.getfield 24, 3) := by decide +kernel
theorem dX5_reads_67 : decode cX5_reads 67 = .ok (.arraylength, 1) := by decide +kernel
theorem dX5_reads_68 : decode cX5_reads 68 = .ok (.if_icmp .ge 38, 3) := by decide +kernel
theorem dX5_reads_71 : decode cX5_reads 71 = .ok (.aload_n 0, 1) := by decide +kernel
theorem dX5_reads_72 : decode cX5_reads 72 = .ok (.getfield 9, 3) := by decide +kernel
theorem dX5_reads_75 : decode cX5_reads 75 = .ok (.ifCond .ne 31, 3) := by decide +kernel
theorem dX5_reads_78 : decode cX5_reads 78 = .ok (.aload_n 0, 1) := by decide +kernel
theorem dX5_reads_79 : decode cX5_reads 79 = .ok (.getfield 24, 3) := by decide +kernel
theorem dX5_reads_82 : decode cX5_reads 82 = .ok (.iload_n 3, 1) := by decide +kernel
theorem dX5_reads_83 : decode cX5_reads 83 = .ok (.aload_n 0, 1) := by decide +kernel
theorem dX5_reads_84 : decode cX5_reads 84 = .ok (.aload_n 1, 1) := by decide +kernel
theorem dX5_reads_85 : decode cX5_reads 85 = .ok (.aload_n 0, 1) := by decide +kernel
theorem dX5_reads_86 : decode cX5_reads 86 = .ok (.getfield 21, 3) := by decide +kernel
theorem dX5_reads_89 : decode cX5_reads 89 = .ok (.getfield 60, 3) := by decide +kernel
theorem dX5_reads_92 : decode cX5_reads 92 = .ok (.iload_n 3, 1) := by decide +kernel
theorem dX5_reads_93 : decode cX5_reads 93 = .ok (.invokevirtual 70, 3) := by decide +kernel
theorem dX5_reads_96 : decode cX5_reads 96 = .ok (.invokevirtual 74, 3) := by decide +kernel
theorem dX5_reads_99 : decode cX5_reads 99 = .ok (.iastore, 1) := by decide +kernel
theorem dX5_reads_100 : decode cX5_reads 100 = .ok (.iinc 3 1, 3) := by decide +kernel
theorem dX5_reads_103 : decode cX5_reads 103 = .ok (.goto (-55), 3) := by decide +kernel
theorem dX5_reads_106 : decode cX5_reads 106 = .ok (.aload_n 0, 1) := by decide +kernel
theorem dX5_reads_107 : decode cX5_reads 107 = .ok (.getfield 28, 3) := by decide +kernel
theorem dX5_reads_110 : decode cX5_reads 110 = .ok (.iconst 4, 1) := by decide +kernel
theorem dX5_reads_111 : decode cX5_reads 111 = .ok (.if_icmp .eq 12, 3) := by decide +kernel
theorem dX5_reads_114 : decode cX5_reads 114 = .ok (.aload_n 0, 1) := by decide +kernel
theorem dX5_reads_115 : decode cX5_reads 115 = .ok (.iconst 1, 1) := by decide +kernel
theorem dX5_reads_116 : decode cX5_reads 116 = .ok (.aload_n 0, 1) := by decide +kernel
theorem dX5_reads_117 : decode cX5_reads 117 = .ok (.getfield 31, 3) := by decide +kernel
theorem dX5_reads_120 : decode cX5_reads 120 = .ok (.invokevirtual 48, 3) := by decide +kernel
theorem dX5_reads_123 : decode cX5_reads 123 = .ok (.aload_n 0, 1) := by decide +kernel
theorem dX5_reads_124 : decode cX5_reads 124 = .ok (.invokevirtual 41, 3) := by decide +kernel
theorem dX5_reads_127 : decode cX5_reads 127 = .ok (.aload_n 0, 1) := by decide +kernel
theorem dX5_reads_128 : decode cX5_reads 128 = .ok (.getfield 9, 3) := by decide +kernel
theorem dX5_reads_131 : decode cX5_reads 131 = .ok (.ifCond .ne 7, 3) := by decide +kernel
theorem dX5_reads_134 : decode cX5_reads 134 = .ok (.iconst 1, 1) := by decide +kernel
theorem dX5_reads_135 : decode cX5_reads 135 = .ok (.goto 4, 3) := by decide +kernel
theorem dX5_reads_138 : decode cX5_reads 138 = .ok (.iconst 0, 1) := by decide +kernel
theorem dX5_reads_139 : decode cX5_reads 139 = .ok (.ireturn, 1) := by decide +kernel
theorem dX5_takesVerb_0 : decode cX5_takesVerb 0 = .ok (.iconst 0, 1) := by decide +kernel
theorem dX5_takesVerb_1 : decode cX5_takesVerb 1 = .ok (.istore_n 1, 1) := by decide +kernel
theorem dX5_takesVerb_2 : decode cX5_takesVerb 2 = .ok (.iload_n 1, 1) := by decide +kernel
theorem dX5_takesVerb_3 : decode cX5_takesVerb 3 = .ok (.getstatic 78, 3) := by decide +kernel
theorem dX5_takesVerb_6 : decode cX5_takesVerb 6 = .ok (.arraylength, 1) := by decide +kernel
theorem dX5_takesVerb_7 : decode cX5_takesVerb 7 = .ok (.if_icmp .ge 35, 3) := by decide +kernel
theorem dX5_takesVerb_10 : decode cX5_takesVerb 10 = .ok (.aload_n 0, 1) := by decide +kernel
theorem dX5_takesVerb_11 : decode cX5_takesVerb 11 = .ok (.getstatic 78, 3) := by decide +kernel
theorem dX5_takesVerb_14 : decode cX5_takesVerb 14 = .ok (.iload_n 1, 1) := by decide +kernel
theorem dX5_takesVerb_15 : decode cX5_takesVerb 15 = .ok (.aaload, 1) := by decide +kernel
theorem dX5_takesVerb_16 : decode cX5_takesVerb 16 = .ok (.getfield 82, 3) := by decide +kernel
theorem dX5_takesVerb_19 : decode cX5_takesVerb 19 = .ok (.invokevirtual 85, 3) := by decide +kernel
theorem dX5_takesVerb_22 : decode cX5_takesVerb 22 = .ok (.ifCond .eq 14, 3) := by decide +kernel
theorem dX5_takesVerb_25 : decode cX5_takesVerb 25 = .ok (.aload_n 0, 1) := by decide +kernel
theorem dX5_takesVerb_26 : decode cX5_takesVerb 26 = .ok (.getstatic 78, 3) := by decide +kernel
theorem dX5_takesVerb_29 : decode cX5_takesVerb 29 = .ok (.iload_n 1, 1) := by decide +kernel
theorem dX5_takesVerb_30 : decode cX5_takesVerb 30 = .ok (.aaload, 1) := by decide +kernel
theorem dX5_takesVerb_31 : decode cX5_takesVerb 31 = .ok (.putfield 21, 3) := by decide +kernel
theorem dX5_takesVerb_34 : decode cX5_takesVerb 34 = .ok (.iconst 1, 1) := by decide +kernel
theorem dX5_takesVerb_35 : decode cX5_takesVerb 35 = .ok (.ireturn, 1) := by decide +kernel
theorem dX5_takesVerb_36 : decode cX5_takesVerb 36 = .ok (.iinc 1 1, 3) := by decide +kernel
theorem dX5_takesVerb_39 : decode cX5_takesVerb 39 = .ok (.goto (-37), 3) := by decide +kernel
theorem dX5_takesVerb_42 : decode cX5_takesVerb 42 = .ok (.iconst 0, 1) := by decide +kernel
theorem dX5_takesVerb_43 : decode cX5_takesVerb 43 = .ok (.ireturn, 1) := by decide +kernel
theorem dX5_readNext_0 : decode cX5_readNext 0 = .ok (.iload_n 2, 1) := by decide +kernel
theorem dX5_readNext_1 : decode cX5_readNext 1 = .ok (.bipush 72, 2) := by decide +kernel
theorem dX5_readNext_3 : decode cX5_readNext 3 = .ok (.if_icmp .ne 8, 3) := by decide +kernel
theorem dX5_readNext_6 : decode cX5_readNext 6 = .ok (.aload_n 0, 1) := by decide +kernel
theorem dX5_readNext_7 : decode cX5_readNext 7 = .ok (.invokevirtual 89, 3) := by decide +kernel
theorem dX5_readNext_10 : decode cX5_readNext 10 = .ok (.ireturn, 1) := by decide +kernel
theorem dX5_readNext_11 : decode cX5_readNext 11 = .ok (.iload_n 2, 1) := by decide +kernel
theorem dX5_readNext_12 : decode cX5_readNext 12 = .ok (.bipush 71, 2) := by decide +kernel
theorem dX5_readNext_14 : decode cX5_readNext 14 = .ok (.if_icmp .ne 14, 3) := by decide +kernel
theorem dX5_readNext_17 : decode cX5_readNext 17 = .ok (.aload_n 0, 1) := by decide +kernel
theorem dX5_readNext_18 : decode cX5_readNext 18 = .ok (.ldc 92, 2) := by decide +kernel
theorem dX5_readNext_20 : decode cX5_readNext 20 = .ok (.invokevirtual 85, 3) := by decide +kernel
theorem dX5_readNext_23 : decode cX5_readNext 23 = .ok (.ifCond .eq 5, 3) := by decide +kernel
theorem dX5_readNext_26 : decode cX5_readNext 26 = .ok (.iconst (-1), 1) := by decide +kernel
theorem dX5_readNext_27 : decode cX5_readNext 27 = .ok (.ireturn, 1) := by decide +kernel
theorem dX5_readNext_28 : decode cX5_readNext 28 = .ok (.aload_n 0, 1) := by decide +kernel
theorem dX5_readNext_29 : decode cX5_readNext 29 = .ok (.getfield 28, 3) := by decide +kernel
theorem dX5_readNext_32 : decode cX5_readNext 32 = .ok (.iconst 3, 1) := by decide +kernel
theorem dX5_readNext_33 : decode cX5_readNext 33 = .ok (.if_icmp .eq 14, 3) := by decide +kernel
theorem dX5_readNext_36 : decode cX5_readNext 36 = .ok (.aload_n 0, 1) := by decide +kernel
theorem dX5_readNext_37 : decode cX5_readNext 37 = .ok (.iconst 1, 1) := by decide +kernel
theorem dX5_readNext_38 : decode cX5_readNext 38 = .ok (.aload_n 0, 1) := by decide +kernel
theorem dX5_readNext_39 : decode cX5_readNext 39 = .ok (.getfield 31, 3) := by decide +kernel
theorem dX5_readNext_42 : decode cX5_readNext 42 = .ok (.invokevirtual 48, 3) := by decide +kernel
theorem dX5_readNext_45 : decode cX5_readNext 45 = .ok (.iconst 0, 1) := by decide +kernel
theorem dX5_readNext_46 : decode cX5_readNext 46 = .ok (.ireturn, 1) := by decide +kernel
theorem dX5_readNext_47 : decode cX5_readNext 47 = .ok (.aload_n 0, 1) := by decide +kernel
theorem dX5_readNext_48 : decode cX5_readNext 48 = .ok (.invokevirtual 94, 3) := by decide +kernel
theorem dX5_readNext_51 : decode cX5_readNext 51 = .ok (.istore_n 3, 1) := by decide +kernel
theorem dX5_readNext_52 : decode cX5_readNext 52 = .ok (.aload_n 1, 1) := by decide +kernel
theorem dX5_readNext_53 : decode cX5_readNext 53 = .ok (.iload_n 2, 1) := by decide +kernel
theorem dX5_readNext_54 : decode cX5_readNext 54 = .ok (.iload_n 3, 1) := by decide +kernel
theorem dX5_readNext_55 : decode cX5_readNext 55 = .ok (.invokestatic 97, 3) := by decide +kernel
theorem dX5_readNext_58 : decode cX5_readNext 58 = .ok (.ifCond .ne 12, 3) := by decide +kernel
theorem dX5_readNext_61 : decode cX5_readNext 61 = .ok (.aload_n 0, 1) := by decide +kernel
theorem dX5_readNext_62 : decode cX5_readNext 62 = .ok (.iconst 2, 1) := by decide +kernel
theorem dX5_readNext_63 : decode cX5_readNext 63 = .ok (.aload_n 0, 1) := by decide +kernel
theorem dX5_readNext_64 : decode cX5_readNext 64 = .ok (.getfield 31, 3) := by decide +kernel
theorem dX5_readNext_67 : decode cX5_readNext 67 = .ok (.invokevirtual 48, 3) := by decide +kernel
theorem dX5_readNext_70 : decode cX5_readNext 70 = .ok (.aload_n 0, 1) := by decide +kernel
theorem dX5_readNext_71 : decode cX5_readNext 71 = .ok (.invokevirtual 41, 3) := by decide +kernel
theorem dX5_readNext_74 : decode cX5_readNext 74 = .ok (.iload_n 3, 1) := by decide +kernel
theorem dX5_readNext_75 : decode cX5_readNext 75 = .ok (.ireturn, 1) := by decide +kernel
theorem dX5_readHow_0 : decode cX5_readHow 0 = .ok (.aload_n 0, 1) := by decide +kernel
theorem dX5_readHow_1 : decode cX5_readHow 1 = .ok (.ldc 101, 2) := by decide +kernel
theorem dX5_readHow_3 : decode cX5_readHow 3 = .ok (.invokevirtual 85, 3) := by decide +kernel
theorem dX5_readHow_6 : decode cX5_readHow 6 = .ok (.ifCond .eq 5, 3) := by decide +kernel
theorem dX5_readHow_9 : decode cX5_readHow 9 = .ok (.iconst 1, 1) := by decide +kernel
theorem dX5_readHow_10 : decode cX5_readHow 10 = .ok (.ireturn, 1) := by decide +kernel
theorem dX5_readHow_11 : decode cX5_readHow 11 = .ok (.aload_n 0, 1) := by decide +kernel
theorem dX5_readHow_12 : decode cX5_readHow 12 = .ok (.ldc 103, 2) := by decide +kernel
theorem dX5_readHow_14 : decode cX5_readHow 14 = .ok (.invokevirtual 85, 3) := by decide +kernel
theorem dX5_readHow_17 : decode cX5_readHow 17 = .ok (.ifCond .eq 5, 3) := by decide +kernel
theorem dX5_readHow_20 : decode cX5_readHow 20 = .ok (.iconst 0, 1) := by decide +kernel
theorem dX5_readHow_21 : decode cX5_readHow 21 = .ok (.ireturn, 1) := by decide +kernel
theorem dX5_readHow_22 : decode cX5_readHow 22 = .ok (.aload_n 0, 1) := by decide +kernel
theorem dX5_readHow_23 : decode cX5_readHow 23 = .ok (.ldc 105, 2) := by decide +kernel
theorem dX5_readHow_25 : decode cX5_readHow 25 = .ok (.invokevirtual 85, 3) := by decide +kernel
theorem dX5_readHow_28 : decode cX5_readHow 28 = .ok (.ifCond .ne 12, 3) := by decide +kernel
theorem dX5_readHow_31 : decode cX5_readHow 31 = .ok (.aload_n 0, 1) := by decide +kernel
theorem dX5_readHow_32 : decode cX5_readHow 32 = .ok (.iconst 1, 1) := by decide +kernel
theorem dX5_readHow_33 : decode cX5_readHow 33 = .ok (.aload_n 0, 1) := by decide +kernel
theorem dX5_readHow_34 : decode cX5_readHow 34 = .ok (.getfield 31, 3) := by decide +kernel
theorem dX5_readHow_37 : decode cX5_readHow 37 = .ok (.invokevirtual 48, 3) := by decide +kernel
theorem dX5_readHow_40 : decode cX5_readHow 40 = .ok (.iconst 2, 1) := by decide +kernel
theorem dX5_readHow_41 : decode cX5_readHow 41 = .ok (.ireturn, 1) := by decide +kernel
theorem dX5_numberHere_0 : decode cX5_numberHere 0 = .ok (.iconst 0, 1) := by decide +kernel
theorem dX5_numberHere_1 : decode cX5_numberHere 1 = .ok (.istore_n 1, 1) := by decide +kernel
theorem dX5_numberHere_2 : decode cX5_numberHere 2 = .ok (.aload_n 0, 1) := by decide +kernel
theorem dX5_numberHere_3 : decode cX5_numberHere 3 = .ok (.getfield 31, 3) := by decide +kernel
theorem dX5_numberHere_6 : decode cX5_numberHere 6 = .ok (.istore_n 2, 1) := by decide +kernel
theorem dX5_numberHere_7 : decode cX5_numberHere 7 = .ok (.iload_n 2, 1) := by decide +kernel
theorem dX5_numberHere_8 : decode cX5_numberHere 8 = .ok (.aload_n 0, 1) := by decide +kernel
theorem dX5_numberHere_9 : decode cX5_numberHere 9 = .ok (.getfield 34, 3) := by decide +kernel
theorem dX5_numberHere_12 : decode cX5_numberHere 12 = .ok (.if_icmp .ge 38, 3) := by decide +kernel
theorem dX5_numberHere_15 : decode cX5_numberHere 15 = .ok (.iload_n 2, 1) := by decide +kernel
theorem dX5_numberHere_16 : decode cX5_numberHere 16 = .ok (.aload_n 0, 1) := by decide +kernel
theorem dX5_numberHere_17 : decode cX5_numberHere 17 = .ok (.getfield 37, 3) := by decide +kernel
theorem dX5_numberHere_20 : decode cX5_numberHere 20 = .ok (.getfield 107, 3) := by decide +kernel
theorem dX5_numberHere_23 : decode cX5_numberHere 23 = .ok (.if_icmp .ge 27, 3) := by decide +kernel
theorem dX5_numberHere_26 : decode cX5_numberHere 26 = .ok (.iload_n 1, 1) := by decide +kernel
theorem dX5_numberHere_27 : decode cX5_numberHere 27 = .ok (.bipush 10, 2) := by decide +kernel
theorem dX5_numberHere_29 : decode cX5_numberHere 29 = .ok (.imul, 1) := by decide +kernel
theorem dX5_numberHere_30 : decode cX5_numberHere 30 = .ok (.aload_n 0, 1) := by decide +kernel
theorem dX5_numberHere_31 : decode cX5_numberHere 31 = .ok (.getfield 37, 3) := by decide +kernel
theorem dX5_numberHere_34 : decode cX5_numberHere 34 = .ok (.getfield 111, 3) := by decide +kernel
theorem dX5_numberHere_37 : decode cX5_numberHere 37 = .ok (.iload_n 2, 1) := by decide +kernel
theorem dX5_numberHere_38 : decode cX5_numberHere 38 = .ok (.iaload, 1) := by decide +kernel
theorem dX5_numberHere_39 : decode cX5_numberHere 39 = .ok (.iadd, 1) := by decide +kernel
theorem dX5_numberHere_40 : decode cX5_numberHere 40 = .ok (.bipush 48, 2) := by decide +kernel
theorem dX5_numberHere_42 : decode cX5_numberHere 42 = .ok (.isub, 1) := by decide +kernel
theorem dX5_numberHere_43 : decode cX5_numberHere 43 = .ok (.istore_n 1, 1) := by decide +kernel
theorem dX5_numberHere_44 : decode cX5_numberHere 44 = .ok (.iinc 2 1, 3) := by decide +kernel
theorem dX5_numberHere_47 : decode cX5_numberHere 47 = .ok (.goto (-40), 3) := by decide +kernel
theorem dX5_numberHere_50 : decode cX5_numberHere 50 = .ok (.iload_n 1, 1) := by decide +kernel
theorem dX5_numberHere_51 : decode cX5_numberHere 51 = .ok (.ireturn, 1) := by decide +kernel
theorem dX5_canBe_0 : decode cX5_canBe 0 = .ok (.iload_n 1, 1) := by decide +kernel
theorem dX5_canBe_1 : decode cX5_canBe 1 = .ok (.bipush 83, 2) := by decide +kernel
theorem dX5_canBe_3 : decode cX5_canBe 3 = .ok (.if_icmp .ne 8, 3) := by decide +kernel
theorem dX5_canBe_6 : decode cX5_canBe 6 = .ok (.iload_n 2, 1) := by decide +kernel
theorem dX5_canBe_7 : decode cX5_canBe 7 = .ok (.invokestatic 114, 3) := by decide +kernel
theorem dX5_canBe_10 : decode cX5_canBe 10 = .ok (.ireturn, 1) := by decide +kernel
theorem dX5_canBe_11 : decode cX5_canBe 11 = .ok (.iload_n 1, 1) := by decide +kernel
theorem dX5_canBe_12 : decode cX5_canBe 12 = .ok (.bipush 75, 2) := by decide +kernel
theorem dX5_canBe_14 : decode cX5_canBe 14 = .ok (.if_icmp .ne 17, 3) := by decide +kernel
theorem dX5_canBe_17 : decode cX5_canBe 17 = .ok (.aload_n 0, 1) := by decide +kernel
theorem dX5_canBe_18 : decode cX5_canBe 18 = .ok (.iload_n 2, 1) := by decide +kernel
theorem dX5_canBe_19 : decode cX5_canBe 19 = .ok (.invokevirtual 118, 3) := by decide +kernel
theorem dX5_canBe_22 : decode cX5_canBe 22 = .ok (.ifCond .ne 7, 3) := by decide +kernel
theorem dX5_canBe_25 : decode cX5_canBe 25 = .ok (.iconst 1, 1) := by decide +kernel
theorem dX5_canBe_26 : decode cX5_canBe 26 = .ok (.goto 4, 3) := by decide +kernel
theorem dX5_canBe_29 : decode cX5_canBe 29 = .ok (.iconst 0, 1) := by decide +kernel
theorem dX5_canBe_30 : decode cX5_canBe 30 = .ok (.ireturn, 1) := by decide +kernel
theorem dX5_canBe_31 : decode cX5_canBe 31 = .ok (.iload_n 1, 1) := by decide +kernel
theorem dX5_canBe_32 : decode cX5_canBe 32 = .ok (.bipush 87, 2) := by decide +kernel
theorem dX5_canBe_34 : decode cX5_canBe 34 = .ok (.if_icmp .ne 11, 3) := by decide +kernel
theorem dX5_canBe_37 : decode cX5_canBe 37 = .ok (.iload_n 2, 1) := by decide +kernel
theorem dX5_canBe_38 : decode cX5_canBe 38 = .ok (.iconst 1, 1) := by decide +kernel
theorem dX5_canBe_39 : decode cX5_canBe 39 = .ok (.bipush 9, 2) := by decide +kernel
theorem dX5_canBe_41 : decode cX5_canBe 41 = .ok (.invokestatic 121, 3) := by decide +kernel
theorem dX5_canBe_44 : decode cX5_canBe 44 = .ok (.ireturn, 1) := by decide +kernel
theorem dX5_canBe_45 : decode cX5_canBe 45 = .ok (.iload_n 1, 1) := by decide +kernel
theorem dX5_canBe_46 : decode cX5_canBe 46 = .ok (.bipush 66, 2) := by decide +kernel
theorem dX5_canBe_48 : decode cX5_canBe 48 = .ok (.if_icmp .ne 9, 3) := by decide +kernel
theorem dX5_canBe_51 : decode cX5_canBe 51 = .ok (.aload_n 0, 1) := by decide +kernel
theorem dX5_canBe_52 : decode cX5_canBe 52 = .ok (.iload_n 2, 1) := by decide +kernel
theorem dX5_canBe_53 : decode cX5_canBe 53 = .ok (.invokevirtual 125, 3) := by decide +kernel
theorem dX5_canBe_56 : decode cX5_canBe 56 = .ok (.ireturn, 1) := by decide +kernel
theorem dX5_canBe_57 : decode cX5_canBe 57 = .ok (.iload_n 1, 1) := by decide +kernel
theorem dX5_canBe_58 : decode cX5_canBe 58 = .ok (.bipush 71, 2) := by decide +kernel
theorem dX5_canBe_60 : decode cX5_canBe 60 = .ok (.if_icmp .ne 8, 3) := by decide +kernel
theorem dX5_canBe_63 : decode cX5_canBe 63 = .ok (.iload_n 2, 1) := by decide +kernel
theorem dX5_canBe_64 : decode cX5_canBe 64 = .ok (.invokestatic 128, 3) := by decide +kernel
theorem dX5_canBe_67 : decode cX5_canBe 67 = .ok (.ireturn, 1) := by decide +kernel
theorem dX5_canBe_68 : decode cX5_canBe 68 = .ok (.iload_n 1, 1) := by decide +kernel
theorem dX5_canBe_69 : decode cX5_canBe 69 = .ok (.bipush 84, 2) := by decide +kernel
theorem dX5_canBe_71 : decode cX5_canBe 71 = .ok (.if_icmp .ne 12, 3) := by decide +kernel
theorem dX5_canBe_74 : decode cX5_canBe 74 = .ok (.iload_n 2, 1) := by decide +kernel
theorem dX5_canBe_75 : decode cX5_canBe 75 = .ok (.iconst 1, 1) := by decide +kernel
theorem dX5_canBe_76 : decode cX5_canBe 76 = .ok (.sipush 999, 3) := by decide +kernel
theorem dX5_canBe_79 : decode cX5_canBe 79 = .ok (.invokestatic 121, 3) := by decide +kernel
theorem dX5_canBe_82 : decode cX5_canBe 82 = .ok (.ireturn, 1) := by decide +kernel
theorem dX5_canBe_83 : decode cX5_canBe 83 = .ok (.iload_n 1, 1) := by decide +kernel
theorem dX5_canBe_84 : decode cX5_canBe 84 = .ok (.bipush 82, 2) := by decide +kernel
theorem dX5_canBe_86 : decode cX5_canBe 86 = .ok (.if_icmp .ne 11, 3) := by decide +kernel
theorem dX5_canBe_89 : decode cX5_canBe 89 = .ok (.iload_n 2, 1) := by decide +kernel
theorem dX5_canBe_90 : decode cX5_canBe 90 = .ok (.iconst 1, 1) := by decide +kernel
theorem dX5_canBe_91 : decode cX5_canBe 91 = .ok (.bipush 16, 2) := by decide +kernel
theorem dX5_canBe_93 : decode cX5_canBe 93 = .ok (.invokestatic 121, 3) := by decide +kernel
theorem dX5_canBe_96 : decode cX5_canBe 96 = .ok (.ireturn, 1) := by decide +kernel
theorem dX5_canBe_97 : decode cX5_canBe 97 = .ok (.iload_n 1, 1) := by decide +kernel
theorem dX5_canBe_98 : decode cX5_canBe 98 = .ok (.bipush 65, 2) := by decide +kernel
theorem dX5_canBe_100 : decode cX5_canBe 100 = .ok (.if_icmp .ne 13, 3) := by decide +kernel
theorem dX5_canBe_103 : decode cX5_canBe 103 = .ok (.iload_n 2, 1) := by decide +kernel
theorem dX5_canBe_104 : decode cX5_canBe 104 = .ok (.iconst 0, 1) := by decide +kernel
theorem dX5_canBe_105 : decode cX5_canBe 105 = .ok (.bipush 99, 2) := by decide +kernel
theorem dX5_canBe_107 : decode cX5_canBe 107 = .ok (.invokestatic 121, 3) := by decide +kernel
theorem dX5_canBe_110 : decode cX5_canBe 110 = .ok (.goto 7, 3) := by decide +kernel
theorem dX5_canBe_113 : decode cX5_canBe 113 = .ok (.iload_n 2, 1) := by decide +kernel
theorem dX5_canBe_114 : decode cX5_canBe 114 = .ok (.invokestatic 131, 3) := by decide +kernel
theorem dX5_canBe_117 : decode cX5_canBe 117 = .ok (.ireturn, 1) := by decide +kernel
theorem dX5_takes_0 : decode cX5_takes 0 = .ok (.aload_n 0, 1) := by decide +kernel
theorem dX5_takes_1 : decode cX5_takes 1 = .ok (.getfield 28, 3) := by decide +kernel
theorem dX5_takes_4 : decode cX5_takes 4 = .ok (.iconst 2, 1) := by decide +kernel
theorem dX5_takes_5 : decode cX5_takes 5 = .ok (.if_icmp .ne 19, 3) := by decide +kernel
theorem dX5_takes_8 : decode cX5_takes 8 = .ok (.aload_n 0, 1) := by decide +kernel
theorem dX5_takes_9 : decode cX5_takes 9 = .ok (.getfield 34, 3) := by decide +kernel
theorem dX5_takes_12 : decode cX5_takes 12 = .ok (.aload_n 0, 1) := by decide +kernel
theorem dX5_takes_13 : decode cX5_takes 13 = .ok (.getfield 31, 3) := by decide +kernel
theorem dX5_takes_16 : decode cX5_takes 16 = .ok (.isub, 1) := by decide +kernel
theorem dX5_takes_17 : decode cX5_takes 17 = .ok (.aload_n 1, 1) := by decide +kernel
theorem dX5_takes_18 : decode cX5_takes 18 = .ok (.invokevirtual 64, 3) := by decide +kernel
theorem dX5_takes_21 : decode cX5_takes 21 = .ok (.if_icmp .eq 5, 3) := by decide +kernel
theorem dX5_takes_24 : decode cX5_takes 24 = .ok (.iconst 0, 1) := by decide +kernel
theorem dX5_takes_25 : decode cX5_takes 25 = .ok (.ireturn, 1) := by decide +kernel
theorem dX5_takes_26 : decode cX5_takes 26 = .ok (.iconst 0, 1) := by decide +kernel
theorem dX5_takes_27 : decode cX5_takes 27 = .ok (.istore_n 2, 1) := by decide +kernel
theorem dX5_takes_28 : decode cX5_takes 28 = .ok (.iload_n 2, 1) := by decide +kernel
theorem dX5_takes_29 : decode cX5_takes 29 = .ok (.aload_n 1, 1) := by decide +kernel
theorem dX5_takes_30 : decode cX5_takes 30 = .ok (.invokevirtual 64, 3) := by decide +kernel
theorem dX5_takes_33 : decode cX5_takes 33 = .ok (.if_icmp .ge 33, 3) := by decide +kernel
theorem dX5_takes_36 : decode cX5_takes 36 = .ok (.aload_n 0, 1) := by decide +kernel
theorem dX5_takes_37 : decode cX5_takes 37 = .ok (.getfield 37, 3) := by decide +kernel
theorem dX5_takes_40 : decode cX5_takes 40 = .ok (.getfield 111, 3) := by decide +kernel
theorem dX5_takes_43 : decode cX5_takes 43 = .ok (.aload_n 0, 1) := by decide +kernel
theorem dX5_takes_44 : decode cX5_takes 44 = .ok (.getfield 31, 3) := by decide +kernel
theorem dX5_takes_47 : decode cX5_takes 47 = .ok (.iload_n 2, 1) := by decide +kernel
theorem dX5_takes_48 : decode cX5_takes 48 = .ok (.iadd, 1) := by decide +kernel
theorem dX5_takes_49 : decode cX5_takes 49 = .ok (.iaload, 1) := by decide +kernel
theorem dX5_takes_50 : decode cX5_takes 50 = .ok (.aload_n 1, 1) := by decide +kernel
theorem dX5_takes_51 : decode cX5_takes 51 = .ok (.iload_n 2, 1) := by decide +kernel
theorem dX5_takes_52 : decode cX5_takes 52 = .ok (.invokevirtual 70, 3) := by decide +kernel
theorem dX5_takes_55 : decode cX5_takes 55 = .ok (.if_icmp .eq 5, 3) := by decide +kernel
theorem dX5_takes_58 : decode cX5_takes 58 = .ok (.iconst 0, 1) := by decide +kernel
theorem dX5_takes_59 : decode cX5_takes 59 = .ok (.ireturn, 1) := by decide +kernel
theorem dX5_takes_60 : decode cX5_takes 60 = .ok (.iinc 2 1, 3) := by decide +kernel
theorem dX5_takes_63 : decode cX5_takes 63 = .ok (.goto (-35), 3) := by decide +kernel
theorem dX5_takes_66 : decode cX5_takes 66 = .ok (.aload_n 0, 1) := by decide +kernel
theorem dX5_takes_67 : decode cX5_takes 67 = .ok (.invokevirtual 41, 3) := by decide +kernel
theorem dX5_takes_70 : decode cX5_takes 70 = .ok (.iconst 1, 1) := by decide +kernel
theorem dX5_takes_71 : decode cX5_takes 71 = .ok (.ireturn, 1) := by decide +kernel
theorem dX5_fail_0 : decode cX5_fail 0 = .ok (.aload_n 0, 1) := by decide +kernel
theorem dX5_fail_1 : decode cX5_fail 1 = .ok (.getfield 9, 3) := by decide +kernel
theorem dX5_fail_4 : decode cX5_fail 4 = .ok (.ifCond .ne 13, 3) := by decide +kernel
theorem dX5_fail_7 : decode cX5_fail 7 = .ok (.aload_n 0, 1) := by decide +kernel
theorem dX5_fail_8 : decode cX5_fail 8 = .ok (.iload_n 1, 1) := by decide +kernel
theorem dX5_fail_9 : decode cX5_fail 9 = .ok (.bipush 8, 2) := by decide +kernel
theorem dX5_fail_11 : decode cX5_fail 11 = .ok (.iload_n 2, 1) := by decide +kernel
theorem dX5_fail_12 : decode cX5_fail 12 = .ok (.imul, 1) := by decide +kernel
theorem dX5_fail_13 : decode cX5_fail 13 = .ok (.iadd, 1) := by decide +kernel
theorem dX5_fail_14 : decode cX5_fail 14 = .ok (.putfield 9, 3) := by decide +kernel
theorem dX5_fail_17 : decode cX5_fail 17 = .ok (.return_, 1) := by decide +kernel
theorem dX5_advance_0 : decode cX5_advance 0 = .ok (.aload_n 0, 1) := by decide +kernel
theorem dX5_advance_1 : decode cX5_advance 1 = .ok (.aload_n 0, 1) := by decide +kernel
theorem dX5_advance_2 : decode cX5_advance 2 = .ok (.getfield 34, 3) := by decide +kernel
theorem dX5_advance_5 : decode cX5_advance 5 = .ok (.putfield 31, 3) := by decide +kernel
theorem dX5_advance_8 : decode cX5_advance 8 = .ok (.aload_n 0, 1) := by decide +kernel
theorem dX5_advance_9 : decode cX5_advance 9 = .ok (.getfield 31, 3) := by decide +kernel
theorem dX5_advance_12 : decode cX5_advance 12 = .ok (.aload_n 0, 1) := by decide +kernel
theorem dX5_advance_13 : decode cX5_advance 13 = .ok (.getfield 37, 3) := by decide +kernel
theorem dX5_advance_16 : decode cX5_advance 16 = .ok (.getfield 107, 3) := by decide +kernel
theorem dX5_advance_19 : decode cX5_advance 19 = .ok (.if_icmp .ge 28, 3) := by decide +kernel
theorem dX5_advance_22 : decode cX5_advance 22 = .ok (.aload_n 0, 1) := by decide +kernel
theorem dX5_advance_23 : decode cX5_advance 23 = .ok (.aload_n 0, 1) := by decide +kernel
theorem dX5_advance_24 : decode cX5_advance 24 = .ok (.getfield 31, 3) := by decide +kernel
theorem dX5_advance_27 : decode cX5_advance 27 = .ok (.invokevirtual 134, 3) := by decide +kernel
theorem dX5_advance_30 : decode cX5_advance 30 = .ok (.iconst 1, 1) := by decide +kernel
theorem dX5_advance_31 : decode cX5_advance 31 = .ok (.if_icmp .ne 16, 3) := by decide +kernel
theorem dX5_advance_34 : decode cX5_advance 34 = .ok (.aload_n 0, 1) := by decide +kernel
theorem dX5_advance_35 : decode cX5_advance 35 = .ok (.dup, 1) := by decide +kernel
theorem dX5_advance_36 : decode cX5_advance 36 = .ok (.getfield 31, 3) := by decide +kernel
theorem dX5_advance_39 : decode cX5_advance 39 = .ok (.iconst 1, 1) := by decide +kernel
theorem dX5_advance_40 : decode cX5_advance 40 = .ok (.iadd, 1) := by decide +kernel
theorem dX5_advance_41 : decode cX5_advance 41 = .ok (.putfield 31, 3) := by decide +kernel
theorem dX5_advance_44 : decode cX5_advance 44 = .ok (.goto (-36), 3) := by decide +kernel
theorem dX5_advance_47 : decode cX5_advance 47 = .ok (.aload_n 0, 1) := by decide +kernel
theorem dX5_advance_48 : decode cX5_advance 48 = .ok (.aload_n 0, 1) := by decide +kernel
theorem dX5_advance_49 : decode cX5_advance 49 = .ok (.aload_n 0, 1) := by decide +kernel
theorem dX5_advance_50 : decode cX5_advance 50 = .ok (.getfield 31, 3) := by decide +kernel
theorem dX5_advance_53 : decode cX5_advance 53 = .ok (.invokevirtual 134, 3) := by decide +kernel
theorem dX5_advance_56 : decode cX5_advance 56 = .ok (.putfield 28, 3) := by decide +kernel
theorem dX5_advance_59 : decode cX5_advance 59 = .ok (.aload_n 0, 1) := by decide +kernel
theorem dX5_advance_60 : decode cX5_advance 60 = .ok (.aload_n 0, 1) := by decide +kernel
theorem dX5_advance_61 : decode cX5_advance 61 = .ok (.getfield 28, 3) := by decide +kernel
theorem dX5_advance_64 : decode cX5_advance 64 = .ok (.ifCond .ne 10, 3) := by decide +kernel
theorem dX5_advance_67 : decode cX5_advance 67 = .ok (.aload_n 0, 1) := by decide +kernel
theorem dX5_advance_68 : decode cX5_advance 68 = .ok (.getfield 31, 3) := by decide +kernel
theorem dX5_advance_71 : decode cX5_advance 71 = .ok (.goto 9, 3) := by decide +kernel
theorem dX5_advance_74 : decode cX5_advance 74 = .ok (.aload_n 0, 1) := by decide +kernel
theorem dX5_advance_75 : decode cX5_advance 75 = .ok (.getfield 31, 3) := by decide +kernel
theorem dX5_advance_78 : decode cX5_advance 78 = .ok (.iconst 1, 1) := by decide +kernel
theorem dX5_advance_79 : decode cX5_advance 79 = .ok (.iadd, 1) := by decide +kernel
theorem dX5_advance_80 : decode cX5_advance 80 = .ok (.putfield 34, 3) := by decide +kernel
theorem dX5_advance_83 : decode cX5_advance 83 = .ok (.aload_n 0, 1) := by decide +kernel
theorem dX5_advance_84 : decode cX5_advance 84 = .ok (.getfield 28, 3) := by decide +kernel
theorem dX5_advance_87 : decode cX5_advance 87 = .ok (.iconst 2, 1) := by decide +kernel
theorem dX5_advance_88 : decode cX5_advance 88 = .ok (.if_icmp .eq 11, 3) := by decide +kernel
theorem dX5_advance_91 : decode cX5_advance 91 = .ok (.aload_n 0, 1) := by decide +kernel
theorem dX5_advance_92 : decode cX5_advance 92 = .ok (.getfield 28, 3) := by decide +kernel
theorem dX5_advance_95 : decode cX5_advance 95 = .ok (.iconst 3, 1) := by decide +kernel
theorem dX5_advance_96 : decode cX5_advance 96 = .ok (.if_icmp .ne 45, 3) := by decide +kernel
theorem dX5_advance_99 : decode cX5_advance 99 = .ok (.aload_n 0, 1) := by decide +kernel
theorem dX5_advance_100 : decode cX5_advance 100 = .ok (.getfield 34, 3) := by decide +kernel
theorem dX5_advance_103 : decode cX5_advance 103 = .ok (.aload_n 0, 1) := by decide +kernel
theorem dX5_advance_104 : decode cX5_advance 104 = .ok (.getfield 37, 3) := by decide +kernel
theorem dX5_advance_107 : decode cX5_advance 107 = .ok (.getfield 107, 3) := by decide +kernel
theorem dX5_advance_110 : decode cX5_advance 110 = .ok (.if_icmp .ge 31, 3) := by decide +kernel
theorem dX5_advance_113 : decode cX5_advance 113 = .ok (.aload_n 0, 1) := by decide +kernel
theorem dX5_advance_114 : decode cX5_advance 114 = .ok (.aload_n 0, 1) := by decide +kernel
theorem dX5_advance_115 : decode cX5_advance 115 = .ok (.getfield 34, 3) := by decide +kernel
theorem dX5_advance_118 : decode cX5_advance 118 = .ok (.invokevirtual 134, 3) := by decide +kernel
theorem dX5_advance_121 : decode cX5_advance 121 = .ok (.aload_n 0, 1) := by decide +kernel
theorem dX5_advance_122 : decode cX5_advance 122 = .ok (.getfield 28, 3) := by decide +kernel
theorem dX5_advance_125 : decode cX5_advance 125 = .ok (.if_icmp .ne 16, 3) := by decide +kernel
theorem dX5_advance_128 : decode cX5_advance 128 = .ok (.aload_n 0, 1) := by decide +kernel
theorem dX5_advance_129 : decode cX5_advance 129 = .ok (.dup, 1) := by decide +kernel
theorem dX5_advance_130 : decode cX5_advance 130 = .ok (.getfield 34, 3) := by decide +kernel
theorem dX5_advance_133 : decode cX5_advance 133 = .ok (.iconst 1, 1) := by decide +kernel
theorem dX5_advance_134 : decode cX5_advance 134 = .ok (.iadd, 1) := by decide +kernel
theorem dX5_advance_135 : decode cX5_advance 135 = .ok (.putfield 34, 3) := by decide +kernel
theorem dX5_advance_138 : decode cX5_advance 138 = .ok (.goto (-39), 3) := by decide +kernel
theorem dX5_advance_141 : decode cX5_advance 141 = .ok (.aload_n 0, 1) := by decide +kernel
theorem dX5_advance_142 : decode cX5_advance 142 = .ok (.getfield 28, 3) := by decide +kernel
theorem dX5_advance_145 : decode cX5_advance 145 = .ok (.iconst 3, 1) := by decide +kernel
theorem dX5_advance_146 : decode cX5_advance 146 = .ok (.if_icmp .ne 21, 3) := by decide +kernel
theorem dX5_advance_149 : decode cX5_advance 149 = .ok (.aload_n 0, 1) := by decide +kernel
theorem dX5_advance_150 : decode cX5_advance 150 = .ok (.getfield 34, 3) := by decide +kernel
theorem dX5_advance_153 : decode cX5_advance 153 = .ok (.aload_n 0, 1) := by decide +kernel
theorem dX5_advance_154 : decode cX5_advance 154 = .ok (.getfield 31, 3) := by decide +kernel
theorem dX5_advance_157 : decode cX5_advance 157 = .ok (.isub, 1) := by decide +kernel
theorem dX5_advance_158 : decode cX5_advance 158 = .ok (.iconst 4, 1) := by decide +kernel
theorem dX5_advance_159 : decode cX5_advance 159 = .ok (.if_icmp .le 8, 3) := by decide +kernel
theorem dX5_advance_162 : decode cX5_advance 162 = .ok (.aload_n 0, 1) := by decide +kernel
theorem dX5_advance_163 : decode cX5_advance 163 = .ok (.iconst 5, 1) := by decide +kernel
theorem dX5_advance_164 : decode cX5_advance 164 = .ok (.putfield 28, 3) := by decide +kernel
theorem dX5_advance_167 : decode cX5_advance 167 = .ok (.return_, 1) := by decide +kernel
theorem dX5_kindAt_0 : decode cX5_kindAt 0 = .ok (.iload_n 1, 1) := by decide +kernel
theorem dX5_kindAt_1 : decode cX5_kindAt 1 = .ok (.ifCond .lt 14, 3) := by decide +kernel
theorem dX5_kindAt_4 : decode cX5_kindAt 4 = .ok (.iload_n 1, 1) := by decide +kernel
theorem dX5_kindAt_5 : decode cX5_kindAt 5 = .ok (.aload_n 0, 1) := by decide +kernel
theorem dX5_kindAt_6 : decode cX5_kindAt 6 = .ok (.getfield 37, 3) := by decide +kernel
theorem dX5_kindAt_9 : decode cX5_kindAt 9 = .ok (.getfield 107, 3) := by decide +kernel
theorem dX5_kindAt_12 : decode cX5_kindAt 12 = .ok (.if_icmp .lt 5, 3) := by decide +kernel
theorem dX5_kindAt_15 : decode cX5_kindAt 15 = .ok (.iconst 0, 1) := by decide +kernel
theorem dX5_kindAt_16 : decode cX5_kindAt 16 = .ok (.ireturn, 1) := by decide +kernel
theorem dX5_kindAt_17 : decode cX5_kindAt 17 = .ok (.aload_n 0, 1) := by decide +kernel
theorem dX5_kindAt_18 : decode cX5_kindAt 18 = .ok (.getfield 37, 3) := by decide +kernel
theorem dX5_kindAt_21 : decode cX5_kindAt 21 = .ok (.getfield 111, 3) := by decide +kernel
theorem dX5_kindAt_24 : decode cX5_kindAt 24 = .ok (.iload_n 1, 1) := by decide +kernel
theorem dX5_kindAt_25 : decode cX5_kindAt 25 = .ok (.iaload, 1) := by decide +kernel
theorem dX5_kindAt_26 : decode cX5_kindAt 26 = .ok (.istore_n 2, 1) := by decide +kernel
theorem dX5_kindAt_27 : decode cX5_kindAt 27 = .ok (.iload_n 2, 1) := by decide +kernel
theorem dX5_kindAt_28 : decode cX5_kindAt 28 = .ok (.bipush 97, 2) := by decide +kernel
theorem dX5_kindAt_30 : decode cX5_kindAt 30 = .ok (.if_icmp .lt 11, 3) := by decide +kernel
theorem dX5_kindAt_33 : decode cX5_kindAt 33 = .ok (.iload_n 2, 1) := by decide +kernel
theorem dX5_kindAt_34 : decode cX5_kindAt 34 = .ok (.bipush 122, 2) := by decide +kernel
theorem dX5_kindAt_36 : decode cX5_kindAt 36 = .ok (.if_icmp .gt 5, 3) := by decide +kernel
theorem dX5_kindAt_39 : decode cX5_kindAt 39 = .ok (.iconst 2, 1) := by decide +kernel
theorem dX5_kindAt_40 : decode cX5_kindAt 40 = .ok (.ireturn, 1) := by decide +kernel
theorem dX5_kindAt_41 : decode cX5_kindAt 41 = .ok (.iload_n 2, 1) := by decide +kernel
theorem dX5_kindAt_42 : decode cX5_kindAt 42 = .ok (.bipush 48, 2) := by decide +kernel
theorem dX5_kindAt_44 : decode cX5_kindAt 44 = .ok (.if_icmp .lt 11, 3) := by decide +kernel
theorem dX5_kindAt_47 : decode cX5_kindAt 47 = .ok (.iload_n 2, 1) := by decide +kernel
theorem dX5_kindAt_48 : decode cX5_kindAt 48 = .ok (.bipush 57, 2) := by decide +kernel
theorem dX5_kindAt_50 : decode cX5_kindAt 50 = .ok (.if_icmp .gt 5, 3) := by decide +kernel
theorem dX5_kindAt_53 : decode cX5_kindAt 53 = .ok (.iconst 3, 1) := by decide +kernel
theorem dX5_kindAt_54 : decode cX5_kindAt 54 = .ok (.ireturn, 1) := by decide +kernel
theorem dX5_kindAt_55 : decode cX5_kindAt 55 = .ok (.iload_n 2, 1) := by decide +kernel
theorem dX5_kindAt_56 : decode cX5_kindAt 56 = .ok (.bipush 32, 2) := by decide +kernel
theorem dX5_kindAt_58 : decode cX5_kindAt 58 = .ok (.if_icmp .eq 9, 3) := by decide +kernel
theorem dX5_kindAt_61 : decode cX5_kindAt 61 = .ok (.iload_n 2, 1) := by decide +kernel
theorem dX5_kindAt_62 : decode cX5_kindAt 62 = .ok (.bipush 10, 2) := by decide +kernel
theorem dX5_kindAt_64 : decode cX5_kindAt 64 = .ok (.if_icmp .ne 5, 3) := by decide +kernel
theorem dX5_kindAt_67 : decode cX5_kindAt 67 = .ok (.iconst 1, 1) := by decide +kernel
theorem dX5_kindAt_68 : decode cX5_kindAt 68 = .ok (.ireturn, 1) := by decide +kernel
theorem dX5_kindAt_69 : decode cX5_kindAt 69 = .ok (.iload_n 2, 1) := by decide +kernel
theorem dX5_kindAt_70 : decode cX5_kindAt 70 = .ok (.bipush 59, 2) := by decide +kernel
theorem dX5_kindAt_72 : decode cX5_kindAt 72 = .ok (.if_icmp .ne 7, 3) := by decide +kernel
theorem dX5_kindAt_75 : decode cX5_kindAt 75 = .ok (.iconst 4, 1) := by decide +kernel
theorem dX5_kindAt_76 : decode cX5_kindAt 76 = .ok (.goto 4, 3) := by decide +kernel
theorem dX5_kindAt_79 : decode cX5_kindAt 79 = .ok (.iconst 5, 1) := by decide +kernel
theorem dX5_kindAt_80 : decode cX5_kindAt 80 = .ok (.ireturn, 1) := by decide +kernel
theorem dX7_init_0 : decode cX7_init 0 = .ok (.aload_n 0, 1) := by decide +kernel
theorem dX7_init_1 : decode cX7_init 1 = .ok (.invokespecial 3, 3) := by decide +kernel
theorem dX7_init_4 : decode cX7_init 4 = .ok (.aload_n 0, 1) := by decide +kernel
theorem dX7_init_5 : decode cX7_init 5 = .ok (.bipush 8, 2) := by decide +kernel
theorem dX7_init_7 : decode cX7_init 7 = .ok (.newarray .int, 2) := by decide +kernel
theorem dX7_init_9 : decode cX7_init 9 = .ok (.putfield 9, 3) := by decide +kernel
theorem dX7_init_12 : decode cX7_init 12 = .ok (.aload_n 0, 1) := by decide +kernel
theorem dX7_init_13 : decode cX7_init 13 = .ok (.bipush 8, 2) := by decide +kernel
theorem dX7_init_15 : decode cX7_init 15 = .ok (.newarray .int, 2) := by decide +kernel
theorem dX7_init_17 : decode cX7_init 17 = .ok (.putfield 15, 3) := by decide +kernel
theorem dX7_init_20 : decode cX7_init 20 = .ok (.aload_n 0, 1) := by decide +kernel
theorem dX7_init_21 : decode cX7_init 21 = .ok (.iconst 4, 1) := by decide +kernel
theorem dX7_init_22 : decode cX7_init 22 = .ok (.anewarray 18, 3) := by decide +kernel
theorem dX7_init_25 : decode cX7_init 25 = .ok (.dup, 1) := by decide +kernel
theorem dX7_init_26 : decode cX7_init 26 = .ok (.iconst 0, 1) := by decide +kernel
theorem dX7_init_27 : decode cX7_init 27 = .ok (.new 18, 3) := by decide +kernel
theorem dX7_init_30 : decode cX7_init 30 = .ok (.dup, 1) := by decide +kernel
theorem dX7_init_31 : decode cX7_init 31 = .ok (.invokespecial 20, 3) := by decide +kernel
end
section
theorem dX7_init_34 : decode cX7_init 34 = .ok (.aastore, 1) := by decide +kernel
theorem dX7_init_35 : decode cX7_init 35 = .ok (.dup, 1) := by decide +kernel
theorem dX7_init_36 : decode cX7_init 36 = .ok (.iconst 1, 1) := by decide +kernel
theorem dX7_init_37 : decode cX7_init 37 = .ok (.new 18, 3) := by decide +kernel
theorem dX7_init_40 : decode cX7_init 40 = .ok (.dup, 1) := by decide +kernel
theorem dX7_init_41 : decode cX7_init 41 = .ok (.invokespecial 20, 3) := by decide +kernel
theorem dX7_init_44 : decode cX7_init 44 = .ok (.aastore, 1) := by decide +kernel
theorem dX7_init_45 : decode cX7_init 45 = .ok (.dup, 1) := by decide +kernel
theorem dX7_init_46 : decode cX7_init 46 = .ok (.iconst 2, 1) := by decide +kernel
theorem dX7_init_47 : decode cX7_init 47 = .ok (.new 18, 3) := by decide +kernel
theorem dX7_init_50 : decode cX7_init 50 = .ok (.dup, 1) := by decide +kernel
theorem dX7_init_51 : decode cX7_init 51 = .ok (.invokespecial 20, 3) := by decide +kernel
theorem dX7_init_54 : decode cX7_init 54 = .ok (.aastore, 1) := by decide +kernel
theorem dX7_init_55 : decode cX7_init 55 = .ok (.dup, 1) := by decide +kernel
theorem dX7_init_56 : decode cX7_init 56 = .ok (.iconst 3, 1) := by decide +kernel
theorem dX7_init_57 : decode cX7_init 57 = .ok (.new 18, 3) := by decide +kernel
theorem dX7_init_60 : decode cX7_init 60 = .ok (.dup, 1) := by decide +kernel
theorem dX7_init_61 : decode cX7_init 61 = .ok (.invokespecial 20, 3) := by decide +kernel
theorem dX7_init_64 : decode cX7_init 64 = .ok (.aastore, 1) := by decide +kernel
theorem dX7_init_65 : decode cX7_init 65 = .ok (.putfield 21, 3) := by decide +kernel
theorem dX7_init_68 : decode cX7_init 68 = .ok (.aload_n 0, 1) := by decide +kernel
theorem dX7_init_69 : decode cX7_init 69 = .ok (.bipush 7, 2) := by decide +kernel
theorem dX7_init_71 : decode cX7_init 71 = .ok (.putfield 25, 3) := by decide +kernel
theorem dX7_init_74 : decode cX7_init 74 = .ok (.aload_n 0, 1) := by decide +kernel
theorem dX7_init_75 : decode cX7_init 75 = .ok (.iconst 0, 1) := by decide +kernel
theorem dX7_init_76 : decode cX7_init 76 = .ok (.putfield 29, 3) := by decide +kernel
theorem dX7_init_79 : decode cX7_init 79 = .ok (.aload_n 0, 1) := by decide +kernel
theorem dX7_init_80 : decode cX7_init 80 = .ok (.iconst 0, 1) := by decide +kernel
theorem dX7_init_81 : decode cX7_init 81 = .ok (.putfield 32, 3) := by decide +kernel
theorem dX7_init_84 : decode cX7_init 84 = .ok (.aload_n 0, 1) := by decide +kernel
theorem dX7_init_85 : decode cX7_init 85 = .ok (.bipush 8, 2) := by decide +kernel
theorem dX7_init_87 : decode cX7_init 87 = .ok (.putfield 35, 3) := by decide +kernel
theorem dX7_init_90 : decode cX7_init 90 = .ok (.aload_n 0, 1) := by decide +kernel
theorem dX7_init_91 : decode cX7_init 91 = .ok (.bipush 20, 2) := by decide +kernel
theorem dX7_init_93 : decode cX7_init 93 = .ok (.putfield 38, 3) := by decide +kernel
theorem dX7_init_96 : decode cX7_init 96 = .ok (.aload_n 0, 1) := by decide +kernel
theorem dX7_init_97 : decode cX7_init 97 = .ok (.aload_n 1, 1) := by decide +kernel
theorem dX7_init_98 : decode cX7_init 98 = .ok (.putfield 41, 3) := by decide +kernel
theorem dX7_init_101 : decode cX7_init 101 = .ok (.return_, 1) := by decide +kernel
theorem dX7_copyFrom_0 : decode cX7_copyFrom 0 = .ok (.aload_n 1, 1) := by decide +kernel
theorem dX7_copyFrom_1 : decode cX7_copyFrom 1 = .ok (.getfield 9, 3) := by decide +kernel
theorem dX7_copyFrom_4 : decode cX7_copyFrom 4 = .ok (.iconst 0, 1) := by decide +kernel
theorem dX7_copyFrom_5 : decode cX7_copyFrom 5 = .ok (.aload_n 0, 1) := by decide +kernel
theorem dX7_copyFrom_6 : decode cX7_copyFrom 6 = .ok (.getfield 9, 3) := by decide +kernel
theorem dX7_copyFrom_9 : decode cX7_copyFrom 9 = .ok (.iconst 0, 1) := by decide +kernel
theorem dX7_copyFrom_10 : decode cX7_copyFrom 10 = .ok (.bipush 8, 2) := by decide +kernel
theorem dX7_copyFrom_12 : decode cX7_copyFrom 12 = .ok (.invokestatic 45, 3) := by decide +kernel
theorem dX7_copyFrom_15 : decode cX7_copyFrom 15 = .ok (.aload_n 1, 1) := by decide +kernel
theorem dX7_copyFrom_16 : decode cX7_copyFrom 16 = .ok (.getfield 15, 3) := by decide +kernel
theorem dX7_copyFrom_19 : decode cX7_copyFrom 19 = .ok (.iconst 0, 1) := by decide +kernel
theorem dX7_copyFrom_20 : decode cX7_copyFrom 20 = .ok (.aload_n 0, 1) := by decide +kernel
theorem dX7_copyFrom_21 : decode cX7_copyFrom 21 = .ok (.getfield 15, 3) := by decide +kernel
theorem dX7_copyFrom_24 : decode cX7_copyFrom 24 = .ok (.iconst 0, 1) := by decide +kernel
theorem dX7_copyFrom_25 : decode cX7_copyFrom 25 = .ok (.bipush 8, 2) := by decide +kernel
theorem dX7_copyFrom_27 : decode cX7_copyFrom 27 = .ok (.invokestatic 45, 3) := by decide +kernel
theorem dX7_copyFrom_30 : decode cX7_copyFrom 30 = .ok (.iconst 0, 1) := by decide +kernel
theorem dX7_copyFrom_31 : decode cX7_copyFrom 31 = .ok (.istore_n 2, 1) := by decide +kernel
theorem dX7_copyFrom_32 : decode cX7_copyFrom 32 = .ok (.iload_n 2, 1) := by decide +kernel
theorem dX7_copyFrom_33 : decode cX7_copyFrom 33 = .ok (.iconst 4, 1) := by decide +kernel
theorem dX7_copyFrom_34 : decode cX7_copyFrom 34 = .ok (.if_icmp .ge 24, 3) := by decide +kernel
theorem dX7_copyFrom_37 : decode cX7_copyFrom 37 = .ok (.aload_n 0, 1) := by decide +kernel
theorem dX7_copyFrom_38 : decode cX7_copyFrom 38 = .ok (.getfield 21, 3) := by decide +kernel
theorem dX7_copyFrom_41 : decode cX7_copyFrom 41 = .ok (.iload_n 2, 1) := by decide +kernel
theorem dX7_copyFrom_42 : decode cX7_copyFrom 42 = .ok (.aaload, 1) := by decide +kernel
theorem dX7_copyFrom_43 : decode cX7_copyFrom 43 = .ok (.aload_n 1, 1) := by decide +kernel
theorem dX7_copyFrom_44 : decode cX7_copyFrom 44 = .ok (.getfield 21, 3) := by decide +kernel
theorem dX7_copyFrom_47 : decode cX7_copyFrom 47 = .ok (.iload_n 2, 1) := by decide +kernel
theorem dX7_copyFrom_48 : decode cX7_copyFrom 48 = .ok (.aaload, 1) := by decide +kernel
theorem dX7_copyFrom_49 : decode cX7_copyFrom 49 = .ok (.invokevirtual 51, 3) := by decide +kernel
theorem dX7_copyFrom_52 : decode cX7_copyFrom 52 = .ok (.iinc 2 1, 3) := by decide +kernel
theorem dX7_copyFrom_55 : decode cX7_copyFrom 55 = .ok (.goto (-23), 3) := by decide +kernel
theorem dX7_copyFrom_58 : decode cX7_copyFrom 58 = .ok (.aload_n 0, 1) := by decide +kernel
theorem dX7_copyFrom_59 : decode cX7_copyFrom 59 = .ok (.aload_n 1, 1) := by decide +kernel
theorem dX7_copyFrom_60 : decode cX7_copyFrom 60 = .ok (.getfield 25, 3) := by decide +kernel
theorem dX7_copyFrom_63 : decode cX7_copyFrom 63 = .ok (.putfield 25, 3) := by decide +kernel
theorem dX7_copyFrom_66 : decode cX7_copyFrom 66 = .ok (.aload_n 0, 1) := by decide +kernel
theorem dX7_copyFrom_67 : decode cX7_copyFrom 67 = .ok (.aload_n 1, 1) := by decide +kernel
theorem dX7_copyFrom_68 : decode cX7_copyFrom 68 = .ok (.getfield 29, 3) := by decide +kernel
theorem dX7_copyFrom_71 : decode cX7_copyFrom 71 = .ok (.putfield 29, 3) := by decide +kernel
theorem dX7_copyFrom_74 : decode cX7_copyFrom 74 = .ok (.aload_n 0, 1) := by decide +kernel
theorem dX7_copyFrom_75 : decode cX7_copyFrom 75 = .ok (.aload_n 1, 1) := by decide +kernel
theorem dX7_copyFrom_76 : decode cX7_copyFrom 76 = .ok (.getfield 32, 3) := by decide +kernel
theorem dX7_copyFrom_79 : decode cX7_copyFrom 79 = .ok (.putfield 32, 3) := by decide +kernel
theorem dX7_copyFrom_82 : decode cX7_copyFrom 82 = .ok (.aload_n 0, 1) := by decide +kernel
theorem dX7_copyFrom_83 : decode cX7_copyFrom 83 = .ok (.aload_n 1, 1) := by decide +kernel
theorem dX7_copyFrom_84 : decode cX7_copyFrom 84 = .ok (.getfield 35, 3) := by decide +kernel
theorem dX7_copyFrom_87 : decode cX7_copyFrom 87 = .ok (.putfield 35, 3) := by decide +kernel
theorem dX7_copyFrom_90 : decode cX7_copyFrom 90 = .ok (.aload_n 0, 1) := by decide +kernel
theorem dX7_copyFrom_91 : decode cX7_copyFrom 91 = .ok (.aload_n 1, 1) := by decide +kernel
theorem dX7_copyFrom_92 : decode cX7_copyFrom 92 = .ok (.getfield 38, 3) := by decide +kernel
theorem dX7_copyFrom_95 : decode cX7_copyFrom 95 = .ok (.putfield 38, 3) := by decide +kernel
theorem dX7_copyFrom_98 : decode cX7_copyFrom 98 = .ok (.return_, 1) := by decide +kernel
theorem dX7_isBackend_0 : decode cX7_isBackend 0 = .ok (.iload_n 1, 1) := by decide +kernel
theorem dX7_isBackend_1 : decode cX7_isBackend 1 = .ok (.ifCond .lt 15, 3) := by decide +kernel
theorem dX7_isBackend_4 : decode cX7_isBackend 4 = .ok (.iload_n 1, 1) := by decide +kernel
theorem dX7_isBackend_5 : decode cX7_isBackend 5 = .ok (.aload_n 0, 1) := by decide +kernel
theorem dX7_isBackend_6 : decode cX7_isBackend 6 = .ok (.getfield 29, 3) := by decide +kernel
theorem dX7_isBackend_9 : decode cX7_isBackend 9 = .ok (.if_icmp .ge 7, 3) := by decide +kernel
theorem dX7_isBackend_12 : decode cX7_isBackend 12 = .ok (.iconst 1, 1) := by decide +kernel
theorem dX7_isBackend_13 : decode cX7_isBackend 13 = .ok (.goto 4, 3) := by decide +kernel
theorem dX7_isBackend_16 : decode cX7_isBackend 16 = .ok (.iconst 0, 1) := by decide +kernel
theorem dX7_isBackend_17 : decode cX7_isBackend 17 = .ok (.ireturn, 1) := by decide +kernel
theorem dX7_isSlot_0 : decode cX7_isSlot 0 = .ok (.iload_n 1, 1) := by decide +kernel
theorem dX7_isSlot_1 : decode cX7_isSlot 1 = .ok (.ifCond .lt 15, 3) := by decide +kernel
theorem dX7_isSlot_4 : decode cX7_isSlot 4 = .ok (.iload_n 1, 1) := by decide +kernel
theorem dX7_isSlot_5 : decode cX7_isSlot 5 = .ok (.aload_n 0, 1) := by decide +kernel
theorem dX7_isSlot_6 : decode cX7_isSlot 6 = .ok (.getfield 25, 3) := by decide +kernel
theorem dX7_isSlot_9 : decode cX7_isSlot 9 = .ok (.if_icmp .ge 7, 3) := by decide +kernel
theorem dX7_isSlot_12 : decode cX7_isSlot 12 = .ok (.iconst 1, 1) := by decide +kernel
theorem dX7_isSlot_13 : decode cX7_isSlot 13 = .ok (.goto 4, 3) := by decide +kernel
theorem dX7_isSlot_16 : decode cX7_isSlot 16 = .ok (.iconst 0, 1) := by decide +kernel
theorem dX7_isSlot_17 : decode cX7_isSlot 17 = .ok (.ireturn, 1) := by decide +kernel
theorem dX7_hasKey_0 : decode cX7_hasKey 0 = .ok (.iconst 0, 1) := by decide +kernel
theorem dX7_hasKey_1 : decode cX7_hasKey 1 = .ok (.istore_n 2, 1) := by decide +kernel
theorem dX7_hasKey_2 : decode cX7_hasKey 2 = .ok (.iload_n 2, 1) := by decide +kernel
theorem dX7_hasKey_3 : decode cX7_hasKey 3 = .ok (.aload_n 0, 1) := by decide +kernel
theorem dX7_hasKey_4 : decode cX7_hasKey 4 = .ok (.getfield 29, 3) := by decide +kernel
theorem dX7_hasKey_7 : decode cX7_hasKey 7 = .ok (.if_icmp .ge 21, 3) := by decide +kernel
theorem dX7_hasKey_10 : decode cX7_hasKey 10 = .ok (.aload_n 0, 1) := by decide +kernel
theorem dX7_hasKey_11 : decode cX7_hasKey 11 = .ok (.getfield 9, 3) := by decide +kernel
theorem dX7_hasKey_14 : decode cX7_hasKey 14 = .ok (.iload_n 2, 1) := by decide +kernel
theorem dX7_hasKey_15 : decode cX7_hasKey 15 = .ok (.iaload, 1) := by decide +kernel
theorem dX7_hasKey_16 : decode cX7_hasKey 16 = .ok (.iload_n 1, 1) := by decide +kernel
theorem dX7_hasKey_17 : decode cX7_hasKey 17 = .ok (.if_icmp .ne 5, 3) := by decide +kernel
theorem dX7_hasKey_20 : decode cX7_hasKey 20 = .ok (.iconst 1, 1) := by decide +kernel
theorem dX7_hasKey_21 : decode cX7_hasKey 21 = .ok (.ireturn, 1) := by decide +kernel
theorem dX7_hasKey_22 : decode cX7_hasKey 22 = .ok (.iinc 2 1, 3) := by decide +kernel
theorem dX7_hasKey_25 : decode cX7_hasKey 25 = .ok (.goto (-23), 3) := by decide +kernel
theorem dX7_hasKey_28 : decode cX7_hasKey 28 = .ok (.iconst 0, 1) := by decide +kernel
theorem dX7_hasKey_29 : decode cX7_hasKey 29 = .ok (.ireturn, 1) := by decide +kernel
theorem dX7_resize_0 : decode cX7_resize 0 = .ok (.aload_n 0, 1) := by decide +kernel
theorem dX7_resize_1 : decode cX7_resize 1 = .ok (.iload_n 1, 1) := by decide +kernel
theorem dX7_resize_2 : decode cX7_resize 2 = .ok (.putfield 25, 3) := by decide +kernel
theorem dX7_resize_5 : decode cX7_resize 5 = .ok (.iconst 0, 1) := by decide +kernel
theorem dX7_resize_6 : decode cX7_resize 6 = .ok (.istore_n 2, 1) := by decide +kernel
theorem dX7_resize_7 : decode cX7_resize 7 = .ok (.iload_n 2, 1) := by decide +kernel
theorem dX7_resize_8 : decode cX7_resize 8 = .ok (.iconst 4, 1) := by decide +kernel
theorem dX7_resize_9 : decode cX7_resize 9 = .ok (.if_icmp .ge 19, 3) := by decide +kernel
theorem dX7_resize_12 : decode cX7_resize 12 = .ok (.aload_n 0, 1) := by decide +kernel
theorem dX7_resize_13 : decode cX7_resize 13 = .ok (.getfield 21, 3) := by decide +kernel
theorem dX7_resize_16 : decode cX7_resize 16 = .ok (.iload_n 2, 1) := by decide +kernel
theorem dX7_resize_17 : decode cX7_resize 17 = .ok (.aaload, 1) := by decide +kernel
theorem dX7_resize_18 : decode cX7_resize 18 = .ok (.iconst 0, 1) := by decide +kernel
theorem dX7_resize_19 : decode cX7_resize 19 = .ok (.putfield 55, 3) := by decide +kernel
theorem dX7_resize_22 : decode cX7_resize 22 = .ok (.iinc 2 1, 3) := by decide +kernel
theorem dX7_resize_25 : decode cX7_resize 25 = .ok (.goto (-18), 3) := by decide +kernel
theorem dX7_resize_28 : decode cX7_resize 28 = .ok (.return_, 1) := by decide +kernel
theorem dX7_addBackend_0 : decode cX7_addBackend 0 = .ok (.aload_n 0, 1) := by decide +kernel
theorem dX7_addBackend_1 : decode cX7_addBackend 1 = .ok (.getfield 29, 3) := by decide +kernel
theorem dX7_addBackend_4 : decode cX7_addBackend 4 = .ok (.bipush 8, 2) := by decide +kernel
theorem dX7_addBackend_6 : decode cX7_addBackend 6 = .ok (.if_icmp .ge 46, 3) := by decide +kernel
theorem dX7_addBackend_9 : decode cX7_addBackend 9 = .ok (.aload_n 0, 1) := by decide +kernel
theorem dX7_addBackend_10 : decode cX7_addBackend 10 = .ok (.getfield 9, 3) := by decide +kernel
theorem dX7_addBackend_13 : decode cX7_addBackend 13 = .ok (.aload_n 0, 1) := by decide +kernel
theorem dX7_addBackend_14 : decode cX7_addBackend 14 = .ok (.getfield 29, 3) := by decide +kernel
theorem dX7_addBackend_17 : decode cX7_addBackend 17 = .ok (.iload_n 1, 1) := by decide +kernel
theorem dX7_addBackend_18 : decode cX7_addBackend 18 = .ok (.iastore, 1) := by decide +kernel
theorem dX7_addBackend_19 : decode cX7_addBackend 19 = .ok (.aload_n 0, 1) := by decide +kernel
theorem dX7_addBackend_20 : decode cX7_addBackend 20 = .ok (.getfield 15, 3) := by decide +kernel
theorem dX7_addBackend_23 : decode cX7_addBackend 23 = .ok (.aload_n 0, 1) := by decide +kernel
theorem dX7_addBackend_24 : decode cX7_addBackend 24 = .ok (.getfield 29, 3) := by decide +kernel
theorem dX7_addBackend_27 : decode cX7_addBackend 27 = .ok (.iload_n 2, 1) := by decide +kernel
theorem dX7_addBackend_28 : decode cX7_addBackend 28 = .ok (.iastore, 1) := by decide +kernel
theorem dX7_addBackend_29 : decode cX7_addBackend 29 = .ok (.aload_n 0, 1) := by decide +kernel
theorem dX7_addBackend_30 : decode cX7_addBackend 30 = .ok (.dup, 1) := by decide +kernel
theorem dX7_addBackend_31 : decode cX7_addBackend 31 = .ok (.getfield 29, 3) := by decide +kernel
theorem dX7_addBackend_34 : decode cX7_addBackend 34 = .ok (.iconst 1, 1) := by decide +kernel
theorem dX7_addBackend_35 : decode cX7_addBackend 35 = .ok (.iadd, 1) := by decide +kernel
theorem dX7_addBackend_36 : decode cX7_addBackend 36 = .ok (.putfield 29, 3) := by decide +kernel
theorem dX7_addBackend_39 : decode cX7_addBackend 39 = .ok (.aload_n 0, 1) := by decide +kernel
theorem dX7_addBackend_40 : decode cX7_addBackend 40 = .ok (.iconst (-1), 1) := by decide +kernel
theorem dX7_addBackend_41 : decode cX7_addBackend 41 = .ok (.aload_n 0, 1) := by decide +kernel
theorem dX7_addBackend_42 : decode cX7_addBackend 42 = .ok (.getfield 29, 3) := by decide +kernel
theorem dX7_addBackend_45 : decode cX7_addBackend 45 = .ok (.iconst 1, 1) := by decide +kernel
theorem dX7_addBackend_46 : decode cX7_addBackend 46 = .ok (.isub, 1) := by decide +kernel
theorem dX7_addBackend_47 : decode cX7_addBackend 47 = .ok (.iconst 1, 1) := by decide +kernel
theorem dX7_addBackend_48 : decode cX7_addBackend 48 = .ok (.invokevirtual 59, 3) := by decide +kernel
theorem dX7_addBackend_51 : decode cX7_addBackend 51 = .ok (.pop, 1) := by decide +kernel
theorem dX7_addBackend_52 : decode cX7_addBackend 52 = .ok (.return_, 1) := by decide +kernel
theorem dX7_show_0 : decode cX7_show 0 = .ok (.iconst 0, 1) := by decide +kernel
theorem dX7_show_1 : decode cX7_show 1 = .ok (.istore 4, 2) := by decide +kernel
theorem dX7_show_3 : decode cX7_show 3 = .ok (.iconst 0, 1) := by decide +kernel
theorem dX7_show_4 : decode cX7_show 4 = .ok (.istore 5, 2) := by decide +kernel
theorem dX7_show_6 : decode cX7_show 6 = .ok (.iload 5, 2) := by decide +kernel
theorem dX7_show_8 : decode cX7_show 8 = .ok (.iconst 4, 1) := by decide +kernel
theorem dX7_show_9 : decode cX7_show 9 = .ok (.if_icmp .ge 52, 3) := by decide +kernel
theorem dX7_show_12 : decode cX7_show 12 = .ok (.iload_n 1, 1) := by decide +kernel
theorem dX7_show_13 : decode cX7_show 13 = .ok (.iconst (-1), 1) := by decide +kernel
theorem dX7_show_14 : decode cX7_show 14 = .ok (.if_icmp .eq 9, 3) := by decide +kernel
theorem dX7_show_17 : decode cX7_show 17 = .ok (.iload_n 1, 1) := by decide +kernel
theorem dX7_show_18 : decode cX7_show 18 = .ok (.iload 5, 2) := by decide +kernel
theorem dX7_show_20 : decode cX7_show 20 = .ok (.if_icmp .ne 35, 3) := by decide +kernel
theorem dX7_show_23 : decode cX7_show 23 = .ok (.aload_n 0, 1) := by decide +kernel
theorem dX7_show_24 : decode cX7_show 24 = .ok (.getfield 21, 3) := by decide +kernel
theorem dX7_show_27 : decode cX7_show 27 = .ok (.iload 5, 2) := by decide +kernel
theorem dX7_show_29 : decode cX7_show 29 = .ok (.aaload, 1) := by decide +kernel
theorem dX7_show_30 : decode cX7_show 30 = .ok (.getfield 63, 3) := by decide +kernel
theorem dX7_show_33 : decode cX7_show 33 = .ok (.iload_n 2, 1) := by decide +kernel
theorem dX7_show_34 : decode cX7_show 34 = .ok (.iaload, 1) := by decide +kernel
theorem dX7_show_35 : decode cX7_show 35 = .ok (.iload_n 3, 1) := by decide +kernel
theorem dX7_show_36 : decode cX7_show 36 = .ok (.if_icmp .eq 19, 3) := by decide +kernel
theorem dX7_show_39 : decode cX7_show 39 = .ok (.aload_n 0, 1) := by decide +kernel
theorem dX7_show_40 : decode cX7_show 40 = .ok (.getfield 21, 3) := by decide +kernel
theorem dX7_show_43 : decode cX7_show 43 = .ok (.iload 5, 2) := by decide +kernel
theorem dX7_show_45 : decode cX7_show 45 = .ok (.aaload, 1) := by decide +kernel
theorem dX7_show_46 : decode cX7_show 46 = .ok (.getfield 63, 3) := by decide +kernel
theorem dX7_show_49 : decode cX7_show 49 = .ok (.iload_n 2, 1) := by decide +kernel
theorem dX7_show_50 : decode cX7_show 50 = .ok (.iload_n 3, 1) := by decide +kernel
theorem dX7_show_51 : decode cX7_show 51 = .ok (.iastore, 1) := by decide +kernel
theorem dX7_show_52 : decode cX7_show 52 = .ok (.iinc 4 1, 3) := by decide +kernel
theorem dX7_show_55 : decode cX7_show 55 = .ok (.iinc 5 1, 3) := by decide +kernel
theorem dX7_show_58 : decode cX7_show 58 = .ok (.goto (-52), 3) := by decide +kernel
theorem dX7_show_61 : decode cX7_show 61 = .ok (.iload 4, 2) := by decide +kernel
theorem dX7_show_63 : decode cX7_show 63 = .ok (.ireturn, 1) := by decide +kernel
theorem dX7_changeRoom_0 : decode cX7_changeRoom 0 = .ok (.aload_n 0, 1) := by decide +kernel
theorem dX7_changeRoom_1 : decode cX7_changeRoom 1 = .ok (.iload_n 1, 1) := by decide +kernel
theorem dX7_changeRoom_2 : decode cX7_changeRoom 2 = .ok (.putfield 35, 3) := by decide +kernel
theorem dX7_changeRoom_5 : decode cX7_changeRoom 5 = .ok (.iconst 0, 1) := by decide +kernel
theorem dX7_changeRoom_6 : decode cX7_changeRoom 6 = .ok (.istore_n 2, 1) := by decide +kernel
theorem dX7_changeRoom_7 : decode cX7_changeRoom 7 = .ok (.iload_n 2, 1) := by decide +kernel
theorem dX7_changeRoom_8 : decode cX7_changeRoom 8 = .ok (.iconst 4, 1) := by decide +kernel
theorem dX7_changeRoom_9 : decode cX7_changeRoom 9 = .ok (.if_icmp .ge 25, 3) := by decide +kernel
theorem dX7_changeRoom_12 : decode cX7_changeRoom 12 = .ok (.aload_n 0, 1) := by decide +kernel
theorem dX7_changeRoom_13 : decode cX7_changeRoom 13 = .ok (.getfield 21, 3) := by decide +kernel
theorem dX7_changeRoom_16 : decode cX7_changeRoom 16 = .ok (.iload_n 2, 1) := by decide +kernel
theorem dX7_changeRoom_17 : decode cX7_changeRoom 17 = .ok (.aaload, 1) := by decide +kernel
theorem dX7_changeRoom_18 : decode cX7_changeRoom 18 = .ok (.getfield 66, 3) := by decide +kernel
theorem dX7_changeRoom_21 : decode cX7_changeRoom 21 = .ok (.aload_n 0, 1) := by decide +kernel
theorem dX7_changeRoom_22 : decode cX7_changeRoom 22 = .ok (.getfield 35, 3) := by decide +kernel
theorem dX7_changeRoom_25 : decode cX7_changeRoom 25 = .ok (.invokevirtual 70, 3) := by decide +kernel
theorem dX7_changeRoom_28 : decode cX7_changeRoom 28 = .ok (.iinc 2 1, 3) := by decide +kernel
theorem dX7_changeRoom_31 : decode cX7_changeRoom 31 = .ok (.goto (-24), 3) := by decide +kernel
theorem dX7_changeRoom_34 : decode cX7_changeRoom 34 = .ok (.return_, 1) := by decide +kernel
theorem dX7_changeAge_0 : decode cX7_changeAge 0 = .ok (.aload_n 0, 1) := by decide +kernel
theorem dX7_changeAge_1 : decode cX7_changeAge 1 = .ok (.iload_n 1, 1) := by decide +kernel
theorem dX7_changeAge_2 : decode cX7_changeAge 2 = .ok (.putfield 38, 3) := by decide +kernel
theorem dX7_changeAge_5 : decode cX7_changeAge 5 = .ok (.aload_n 0, 1) := by decide +kernel
theorem dX7_changeAge_6 : decode cX7_changeAge 6 = .ok (.invokevirtual 76, 3) := by decide +kernel
theorem dX7_changeAge_9 : decode cX7_changeAge 9 = .ok (.return_, 1) := by decide +kernel
theorem dX7_passTicks_0 : decode cX7_passTicks 0 = .ok (.aload_n 0, 1) := by decide +kernel
theorem dX7_passTicks_1 : decode cX7_passTicks 1 = .ok (.dup, 1) := by decide +kernel
theorem dX7_passTicks_2 : decode cX7_passTicks 2 = .ok (.getfield 32, 3) := by decide +kernel
theorem dX7_passTicks_5 : decode cX7_passTicks 5 = .ok (.iload_n 1, 1) := by decide +kernel
theorem dX7_passTicks_6 : decode cX7_passTicks 6 = .ok (.iadd, 1) := by decide +kernel
theorem dX7_passTicks_7 : decode cX7_passTicks 7 = .ok (.putfield 32, 3) := by decide +kernel
theorem dX7_passTicks_10 : decode cX7_passTicks 10 = .ok (.aload_n 0, 1) := by decide +kernel
theorem dX7_passTicks_11 : decode cX7_passTicks 11 = .ok (.invokevirtual 76, 3) := by decide +kernel
theorem dX7_passTicks_14 : decode cX7_passTicks 14 = .ok (.return_, 1) := by decide +kernel
theorem dX7_forgetAged_0 : decode cX7_forgetAged 0 = .ok (.iconst 0, 1) := by decide +kernel
theorem dX7_forgetAged_1 : decode cX7_forgetAged 1 = .ok (.istore_n 1, 1) := by decide +kernel
theorem dX7_forgetAged_2 : decode cX7_forgetAged 2 = .ok (.iload_n 1, 1) := by decide +kernel
theorem dX7_forgetAged_3 : decode cX7_forgetAged 3 = .ok (.iconst 4, 1) := by decide +kernel
theorem dX7_forgetAged_4 : decode cX7_forgetAged 4 = .ok (.if_icmp .ge 30, 3) := by decide +kernel
theorem dX7_forgetAged_7 : decode cX7_forgetAged 7 = .ok (.aload_n 0, 1) := by decide +kernel
theorem dX7_forgetAged_8 : decode cX7_forgetAged 8 = .ok (.getfield 21, 3) := by decide +kernel
theorem dX7_forgetAged_11 : decode cX7_forgetAged 11 = .ok (.iload_n 1, 1) := by decide +kernel
theorem dX7_forgetAged_12 : decode cX7_forgetAged 12 = .ok (.aaload, 1) := by decide +kernel
theorem dX7_forgetAged_13 : decode cX7_forgetAged 13 = .ok (.getfield 66, 3) := by decide +kernel
theorem dX7_forgetAged_16 : decode cX7_forgetAged 16 = .ok (.aload_n 0, 1) := by decide +kernel
theorem dX7_forgetAged_17 : decode cX7_forgetAged 17 = .ok (.getfield 32, 3) := by decide +kernel
theorem dX7_forgetAged_20 : decode cX7_forgetAged 20 = .ok (.aload_n 0, 1) := by decide +kernel
theorem dX7_forgetAged_21 : decode cX7_forgetAged 21 = .ok (.getfield 38, 3) := by decide +kernel
theorem dX7_forgetAged_24 : decode cX7_forgetAged 24 = .ok (.isub, 1) := by decide +kernel
theorem dX7_forgetAged_25 : decode cX7_forgetAged 25 = .ok (.invokevirtual 79, 3) := by decide +kernel
theorem dX7_forgetAged_28 : decode cX7_forgetAged 28 = .ok (.iinc 1 1, 3) := by decide +kernel
theorem dX7_forgetAged_31 : decode cX7_forgetAged 31 = .ok (.goto (-29), 3) := by decide +kernel
theorem dX7_forgetAged_34 : decode cX7_forgetAged 34 = .ok (.return_, 1) := by decide +kernel
theorem dX7_send_0 : decode cX7_send 0 = .ok (.aload_n 0, 1) := by decide +kernel
theorem dX7_send_1 : decode cX7_send 1 = .ok (.getfield 21, 3) := by decide +kernel
theorem dX7_send_4 : decode cX7_send 4 = .ok (.iload_n 1, 1) := by decide +kernel
theorem dX7_send_5 : decode cX7_send 5 = .ok (.aaload, 1) := by decide +kernel
theorem dX7_send_6 : decode cX7_send 6 = .ok (.astore_n 3, 1) := by decide +kernel
theorem dX7_send_7 : decode cX7_send 7 = .ok (.aload_n 3, 1) := by decide +kernel
theorem dX7_send_8 : decode cX7_send 8 = .ok (.iload_n 2, 1) := by decide +kernel
theorem dX7_send_9 : decode cX7_send 9 = .ok (.invokevirtual 82, 3) := by decide +kernel
theorem dX7_send_12 : decode cX7_send 12 = .ok (.istore 4, 2) := by decide +kernel
theorem dX7_send_14 : decode cX7_send 14 = .ok (.iload 4, 2) := by decide +kernel
theorem dX7_send_16 : decode cX7_send 16 = .ok (.iconst (-1), 1) := by decide +kernel
theorem dX7_send_17 : decode cX7_send 17 = .ok (.if_icmp .ne 44, 3) := by decide +kernel
theorem dX7_send_20 : decode cX7_send 20 = .ok (.aload_n 0, 1) := by decide +kernel
theorem dX7_send_21 : decode cX7_send 21 = .ok (.getfield 41, 3) := by decide +kernel
theorem dX7_send_24 : decode cX7_send 24 = .ok (.aload_n 0, 1) := by decide +kernel
theorem dX7_send_25 : decode cX7_send 25 = .ok (.getfield 41, 3) := by decide +kernel
theorem dX7_send_28 : decode cX7_send 28 = .ok (.getfield 86, 3) := by decide +kernel
theorem dX7_send_31 : decode cX7_send 31 = .ok (.aload_n 0, 1) := by decide +kernel
theorem dX7_send_32 : decode cX7_send 32 = .ok (.aload_n 3, 1) := by decide +kernel
theorem dX7_send_33 : decode cX7_send 33 = .ok (.invokevirtual 91, 3) := by decide +kernel
theorem dX7_send_36 : decode cX7_send 36 = .ok (.aload_n 0, 1) := by decide +kernel
theorem dX7_send_37 : decode cX7_send 37 = .ok (.getfield 25, 3) := by decide +kernel
theorem dX7_send_40 : decode cX7_send 40 = .ok (.invokevirtual 95, 3) := by decide +kernel
theorem dX7_send_43 : decode cX7_send 43 = .ok (.aload_n 0, 1) := by decide +kernel
theorem dX7_send_44 : decode cX7_send 44 = .ok (.getfield 41, 3) := by decide +kernel
theorem dX7_send_47 : decode cX7_send 47 = .ok (.getfield 86, 3) := by decide +kernel
theorem dX7_send_50 : decode cX7_send 50 = .ok (.iload_n 2, 1) := by decide +kernel
theorem dX7_send_51 : decode cX7_send 51 = .ok (.aload_n 0, 1) := by decide +kernel
theorem dX7_send_52 : decode cX7_send 52 = .ok (.getfield 25, 3) := by decide +kernel
theorem dX7_send_55 : decode cX7_send 55 = .ok (.invokestatic 99, 3) := by decide +kernel
theorem dX7_send_58 : decode cX7_send 58 = .ok (.iaload, 1) := by decide +kernel
theorem dX7_send_59 : decode cX7_send 59 = .ok (.istore 4, 2) := by decide +kernel
theorem dX7_send_61 : decode cX7_send 61 = .ok (.iload 4, 2) := by decide +kernel
theorem dX7_send_63 : decode cX7_send 63 = .ok (.iconst (-1), 1) := by decide +kernel
theorem dX7_send_64 : decode cX7_send 64 = .ok (.if_icmp .eq 24, 3) := by decide +kernel
theorem dX7_send_67 : decode cX7_send 67 = .ok (.aload_n 3, 1) := by decide +kernel
theorem dX7_send_68 : decode cX7_send 68 = .ok (.getfield 66, 3) := by decide +kernel
theorem dX7_send_71 : decode cX7_send 71 = .ok (.iload_n 2, 1) := by decide +kernel
theorem dX7_send_72 : decode cX7_send 72 = .ok (.iload 4, 2) := by decide +kernel
theorem dX7_send_74 : decode cX7_send 74 = .ok (.aload_n 0, 1) := by decide +kernel
theorem dX7_send_75 : decode cX7_send 75 = .ok (.getfield 32, 3) := by decide +kernel
theorem dX7_send_78 : decode cX7_send 78 = .ok (.aload_n 0, 1) := by decide +kernel
theorem dX7_send_79 : decode cX7_send 79 = .ok (.getfield 35, 3) := by decide +kernel
theorem dX7_send_82 : decode cX7_send 82 = .ok (.invokevirtual 103, 3) := by decide +kernel
theorem dX7_send_85 : decode cX7_send 85 = .ok (.iload 4, 2) := by decide +kernel
theorem dX7_send_87 : decode cX7_send 87 = .ok (.ireturn, 1) := by decide +kernel
theorem dX7_send_88 : decode cX7_send 88 = .ok (.aload_n 3, 1) := by decide +kernel
theorem dX7_send_89 : decode cX7_send 89 = .ok (.getfield 66, 3) := by decide +kernel
theorem dX7_send_92 : decode cX7_send 92 = .ok (.iload_n 2, 1) := by decide +kernel
theorem dX7_send_93 : decode cX7_send 93 = .ok (.invokevirtual 107, 3) := by decide +kernel
theorem dX7_send_96 : decode cX7_send 96 = .ok (.istore 5, 2) := by decide +kernel
theorem dX7_send_98 : decode cX7_send 98 = .ok (.iload 5, 2) := by decide +kernel
theorem dX7_send_100 : decode cX7_send 100 = .ok (.iconst (-1), 1) := by decide +kernel
theorem dX7_send_101 : decode cX7_send 101 = .ok (.if_icmp .eq 12, 3) := by decide +kernel
theorem dX7_send_104 : decode cX7_send 104 = .ok (.aload_n 3, 1) := by decide +kernel
theorem dX7_send_105 : decode cX7_send 105 = .ok (.getfield 66, 3) := by decide +kernel
theorem dX7_send_108 : decode cX7_send 108 = .ok (.iload 5, 2) := by decide +kernel
theorem dX7_send_110 : decode cX7_send 110 = .ok (.invokevirtual 110, 3) := by decide +kernel
theorem dX7_send_113 : decode cX7_send 113 = .ok (.iconst (-1), 1) := by decide +kernel
theorem dX7_send_114 : decode cX7_send 114 = .ok (.ireturn, 1) := by decide +kernel
theorem dX7_perform_0 : decode cX7_perform 0 = .ok (.getstatic 113, 3) := by decide +kernel
theorem dX7_perform_3 : decode cX7_perform 3 = .ok (.aload_n 1, 1) := by decide +kernel
theorem dX7_perform_4 : decode cX7_perform 4 = .ok (.invokevirtual 118, 3) := by decide +kernel
theorem dX7_perform_7 : decode cX7_perform 7 = .ok (.iaload, 1) := by decide +kernel
theorem dX7_perform_8 : decode cX7_perform 8 = .ok (.tableswitch 128 1 7 #[44, 54, 67, 81, 98, 108, 118], 44) := by decide +kernel
theorem dX7_perform_52 : decode cX7_perform 52 = .ok (.aload_n 0, 1) := by decide +kernel
theorem dX7_perform_53 : decode cX7_perform 53 = .ok (.aload_n 2, 1) := by decide +kernel
theorem dX7_perform_54 : decode cX7_perform 54 = .ok (.iconst 0, 1) := by decide +kernel
theorem dX7_perform_55 : decode cX7_perform 55 = .ok (.iaload, 1) := by decide +kernel
theorem dX7_perform_56 : decode cX7_perform 56 = .ok (.invokevirtual 123, 3) := by decide +kernel
theorem dX7_perform_59 : decode cX7_perform 59 = .ok (.goto 113, 3) := by decide +kernel
theorem dX7_perform_62 : decode cX7_perform 62 = .ok (.aload_n 0, 1) := by decide +kernel
theorem dX7_perform_63 : decode cX7_perform 63 = .ok (.aload_n 2, 1) := by decide +kernel
theorem dX7_perform_64 : decode cX7_perform 64 = .ok (.iconst 0, 1) := by decide +kernel
theorem dX7_perform_65 : decode cX7_perform 65 = .ok (.iaload, 1) := by decide +kernel
theorem dX7_perform_66 : decode cX7_perform 66 = .ok (.aload_n 2, 1) := by decide +kernel
theorem dX7_perform_67 : decode cX7_perform 67 = .ok (.iconst 1, 1) := by decide +kernel
theorem dX7_perform_68 : decode cX7_perform 68 = .ok (.iaload, 1) := by decide +kernel
theorem dX7_perform_69 : decode cX7_perform 69 = .ok (.invokevirtual 126, 3) := by decide +kernel
theorem dX7_perform_72 : decode cX7_perform 72 = .ok (.goto 100, 3) := by decide +kernel
theorem dX7_perform_75 : decode cX7_perform 75 = .ok (.aload_n 0, 1) := by decide +kernel
theorem dX7_perform_76 : decode cX7_perform 76 = .ok (.getfield 15, 3) := by decide +kernel
theorem dX7_perform_79 : decode cX7_perform 79 = .ok (.aload_n 2, 1) := by decide +kernel
theorem dX7_perform_80 : decode cX7_perform 80 = .ok (.iconst 0, 1) := by decide +kernel
theorem dX7_perform_81 : decode cX7_perform 81 = .ok (.iaload, 1) := by decide +kernel
theorem dX7_perform_82 : decode cX7_perform 82 = .ok (.aload_n 2, 1) := by decide +kernel
theorem dX7_perform_83 : decode cX7_perform 83 = .ok (.iconst 1, 1) := by decide +kernel
theorem dX7_perform_84 : decode cX7_perform 84 = .ok (.iaload, 1) := by decide +kernel
theorem dX7_perform_85 : decode cX7_perform 85 = .ok (.iastore, 1) := by decide +kernel
theorem dX7_perform_86 : decode cX7_perform 86 = .ok (.goto 86, 3) := by decide +kernel
theorem dX7_perform_89 : decode cX7_perform 89 = .ok (.aload_n 0, 1) := by decide +kernel
theorem dX7_perform_90 : decode cX7_perform 90 = .ok (.aload_n 2, 1) := by decide +kernel
theorem dX7_perform_91 : decode cX7_perform 91 = .ok (.iconst 0, 1) := by decide +kernel
theorem dX7_perform_92 : decode cX7_perform 92 = .ok (.iaload, 1) := by decide +kernel
theorem dX7_perform_93 : decode cX7_perform 93 = .ok (.aload_n 2, 1) := by decide +kernel
theorem dX7_perform_94 : decode cX7_perform 94 = .ok (.iconst 1, 1) := by decide +kernel
theorem dX7_perform_95 : decode cX7_perform 95 = .ok (.iaload, 1) := by decide +kernel
theorem dX7_perform_96 : decode cX7_perform 96 = .ok (.aload_n 2, 1) := by decide +kernel
theorem dX7_perform_97 : decode cX7_perform 97 = .ok (.iconst 2, 1) := by decide +kernel
theorem dX7_perform_98 : decode cX7_perform 98 = .ok (.iaload, 1) := by decide +kernel
theorem dX7_perform_99 : decode cX7_perform 99 = .ok (.invokevirtual 59, 3) := by decide +kernel
theorem dX7_perform_102 : decode cX7_perform 102 = .ok (.pop, 1) := by decide +kernel
theorem dX7_perform_103 : decode cX7_perform 103 = .ok (.goto 69, 3) := by decide +kernel
theorem dX7_perform_106 : decode cX7_perform 106 = .ok (.aload_n 0, 1) := by decide +kernel
theorem dX7_perform_107 : decode cX7_perform 107 = .ok (.aload_n 2, 1) := by decide +kernel
theorem dX7_perform_108 : decode cX7_perform 108 = .ok (.iconst 0, 1) := by decide +kernel
theorem dX7_perform_109 : decode cX7_perform 109 = .ok (.iaload, 1) := by decide +kernel
theorem dX7_perform_110 : decode cX7_perform 110 = .ok (.invokevirtual 130, 3) := by decide +kernel
theorem dX7_perform_113 : decode cX7_perform 113 = .ok (.goto 59, 3) := by decide +kernel
theorem dX7_perform_116 : decode cX7_perform 116 = .ok (.aload_n 0, 1) := by decide +kernel
theorem dX7_perform_117 : decode cX7_perform 117 = .ok (.aload_n 2, 1) := by decide +kernel
theorem dX7_perform_118 : decode cX7_perform 118 = .ok (.iconst 0, 1) := by decide +kernel
theorem dX7_perform_119 : decode cX7_perform 119 = .ok (.iaload, 1) := by decide +kernel
theorem dX7_perform_120 : decode cX7_perform 120 = .ok (.invokevirtual 133, 3) := by decide +kernel
theorem dX7_perform_123 : decode cX7_perform 123 = .ok (.goto 49, 3) := by decide +kernel
theorem dX7_perform_126 : decode cX7_perform 126 = .ok (.aload_n 0, 1) := by decide +kernel
theorem dX7_perform_127 : decode cX7_perform 127 = .ok (.aload_n 2, 1) := by decide +kernel
theorem dX7_perform_128 : decode cX7_perform 128 = .ok (.iconst 0, 1) := by decide +kernel
theorem dX7_perform_129 : decode cX7_perform 129 = .ok (.iaload, 1) := by decide +kernel
theorem dX7_perform_130 : decode cX7_perform 130 = .ok (.invokevirtual 136, 3) := by decide +kernel
theorem dX7_perform_133 : decode cX7_perform 133 = .ok (.goto 39, 3) := by decide +kernel
theorem dX7_perform_136 : decode cX7_perform 136 = .ok (.iconst 0, 1) := by decide +kernel
theorem dX7_perform_137 : decode cX7_perform 137 = .ok (.istore_n 3, 1) := by decide +kernel
theorem dX7_perform_138 : decode cX7_perform 138 = .ok (.iload_n 3, 1) := by decide +kernel
theorem dX7_perform_139 : decode cX7_perform 139 = .ok (.iconst 4, 1) := by decide +kernel
theorem dX7_perform_140 : decode cX7_perform 140 = .ok (.if_icmp .ge 32, 3) := by decide +kernel
theorem dX7_perform_143 : decode cX7_perform 143 = .ok (.aload_n 2, 1) := by decide +kernel
theorem dX7_perform_144 : decode cX7_perform 144 = .ok (.iconst 0, 1) := by decide +kernel
theorem dX7_perform_145 : decode cX7_perform 145 = .ok (.iaload, 1) := by decide +kernel
theorem dX7_perform_146 : decode cX7_perform 146 = .ok (.iconst (-1), 1) := by decide +kernel
theorem dX7_perform_147 : decode cX7_perform 147 = .ok (.if_icmp .eq 10, 3) := by decide +kernel
theorem dX7_perform_150 : decode cX7_perform 150 = .ok (.aload_n 2, 1) := by decide +kernel
theorem dX7_perform_151 : decode cX7_perform 151 = .ok (.iconst 0, 1) := by decide +kernel
theorem dX7_perform_152 : decode cX7_perform 152 = .ok (.iaload, 1) := by decide +kernel
theorem dX7_perform_153 : decode cX7_perform 153 = .ok (.iload_n 3, 1) := by decide +kernel
theorem dX7_perform_154 : decode cX7_perform 154 = .ok (.if_icmp .ne 12, 3) := by decide +kernel
theorem dX7_perform_157 : decode cX7_perform 157 = .ok (.aload_n 0, 1) := by decide +kernel
theorem dX7_perform_158 : decode cX7_perform 158 = .ok (.iload_n 3, 1) := by decide +kernel
theorem dX7_perform_159 : decode cX7_perform 159 = .ok (.aload_n 2, 1) := by decide +kernel
theorem dX7_perform_160 : decode cX7_perform 160 = .ok (.iconst 1, 1) := by decide +kernel
theorem dX7_perform_161 : decode cX7_perform 161 = .ok (.iaload, 1) := by decide +kernel
theorem dX7_perform_162 : decode cX7_perform 162 = .ok (.invokevirtual 139, 3) := by decide +kernel
theorem dX7_perform_165 : decode cX7_perform 165 = .ok (.pop, 1) := by decide +kernel
theorem dX7_perform_166 : decode cX7_perform 166 = .ok (.iinc 3 1, 3) := by decide +kernel
theorem dX7_perform_169 : decode cX7_perform 169 = .ok (.goto (-31), 3) := by decide +kernel
theorem dX7_perform_172 : decode cX7_perform 172 = .ok (.return_, 1) := by decide +kernel
theorem dX8_init_0 : decode cX8_init 0 = .ok (.aload_n 0, 1) := by decide +kernel
theorem dX8_init_1 : decode cX8_init 1 = .ok (.invokespecial 1, 3) := by decide +kernel
theorem dX8_init_4 : decode cX8_init 4 = .ok (.aload_n 0, 1) := by decide +kernel
theorem dX8_init_5 : decode cX8_init 5 = .ok (.new 7, 3) := by decide +kernel
theorem dX8_init_8 : decode cX8_init 8 = .ok (.dup, 1) := by decide +kernel
theorem dX8_init_9 : decode cX8_init 9 = .ok (.invokespecial 9, 3) := by decide +kernel
theorem dX8_init_12 : decode cX8_init 12 = .ok (.putfield 10, 3) := by decide +kernel
theorem dX8_init_15 : decode cX8_init 15 = .ok (.aload_n 0, 1) := by decide +kernel
theorem dX8_init_16 : decode cX8_init 16 = .ok (.new 16, 3) := by decide +kernel
theorem dX8_init_19 : decode cX8_init 19 = .ok (.dup, 1) := by decide +kernel
theorem dX8_init_20 : decode cX8_init 20 = .ok (.invokespecial 18, 3) := by decide +kernel
theorem dX8_init_23 : decode cX8_init 23 = .ok (.putfield 19, 3) := by decide +kernel
theorem dX8_init_26 : decode cX8_init 26 = .ok (.aload_n 0, 1) := by decide +kernel
theorem dX8_init_27 : decode cX8_init 27 = .ok (.new 23, 3) := by decide +kernel
theorem dX8_init_30 : decode cX8_init 30 = .ok (.dup, 1) := by decide +kernel
theorem dX8_init_31 : decode cX8_init 31 = .ok (.aload_n 0, 1) := by decide +kernel
theorem dX8_init_32 : decode cX8_init 32 = .ok (.getfield 19, 3) := by decide +kernel
theorem dX8_init_35 : decode cX8_init 35 = .ok (.invokespecial 25, 3) := by decide +kernel
theorem dX8_init_38 : decode cX8_init 38 = .ok (.putfield 28, 3) := by decide +kernel
theorem dX8_init_41 : decode cX8_init 41 = .ok (.aload_n 0, 1) := by decide +kernel
theorem dX8_init_42 : decode cX8_init 42 = .ok (.new 23, 3) := by decide +kernel
theorem dX8_init_45 : decode cX8_init 45 = .ok (.dup, 1) := by decide +kernel
theorem dX8_init_46 : decode cX8_init 46 = .ok (.aload_n 0, 1) := by decide +kernel
theorem dX8_init_47 : decode cX8_init 47 = .ok (.getfield 19, 3) := by decide +kernel
theorem dX8_init_50 : decode cX8_init 50 = .ok (.invokespecial 25, 3) := by decide +kernel
theorem dX8_init_53 : decode cX8_init 53 = .ok (.putfield 32, 3) := by decide +kernel
theorem dX8_init_56 : decode cX8_init 56 = .ok (.aload_n 0, 1) := by decide +kernel
theorem dX8_init_57 : decode cX8_init 57 = .ok (.new 35, 3) := by decide +kernel
theorem dX8_init_60 : decode cX8_init 60 = .ok (.dup, 1) := by decide +kernel
theorem dX8_init_61 : decode cX8_init 61 = .ok (.aload_n 0, 1) := by decide +kernel
theorem dX8_init_62 : decode cX8_init 62 = .ok (.getfield 10, 3) := by decide +kernel
theorem dX8_init_65 : decode cX8_init 65 = .ok (.invokespecial 37, 3) := by decide +kernel
theorem dX8_init_68 : decode cX8_init 68 = .ok (.putfield 40, 3) := by decide +kernel
theorem dX8_init_71 : decode cX8_init 71 = .ok (.return_, 1) := by decide +kernel
theorem dX8_feed_0 : decode cX8_feed 0 = .ok (.aload_n 0, 1) := by decide +kernel
theorem dX8_feed_1 : decode cX8_feed 1 = .ok (.getfield 10, 3) := by decide +kernel
theorem dX8_feed_4 : decode cX8_feed 4 = .ok (.getfield 44, 3) := by decide +kernel
theorem dX8_feed_7 : decode cX8_feed 7 = .ok (.bipush 20, 2) := by decide +kernel
theorem dX8_feed_9 : decode cX8_feed 9 = .ok (.iadd, 1) := by decide +kernel
theorem dX8_feed_10 : decode cX8_feed 10 = .ok (.sipush 400, 3) := by decide +kernel
theorem dX8_feed_13 : decode cX8_feed 13 = .ok (.if_icmp .le 5, 3) := by decide +kernel
theorem dX8_feed_16 : decode cX8_feed 16 = .ok (.iconst (-1), 1) := by decide +kernel
theorem dX8_feed_17 : decode cX8_feed 17 = .ok (.ireturn, 1) := by decide +kernel
theorem dX8_feed_18 : decode cX8_feed 18 = .ok (.aload_n 0, 1) := by decide +kernel
theorem dX8_feed_19 : decode cX8_feed 19 = .ok (.getfield 10, 3) := by decide +kernel
theorem dX8_feed_22 : decode cX8_feed 22 = .ok (.iload_n 1, 1) := by decide +kernel
theorem dX8_feed_23 : decode cX8_feed 23 = .ok (.invokevirtual 48, 3) := by decide +kernel
theorem dX8_feed_26 : decode cX8_feed 26 = .ok (.aload_n 0, 1) := by decide +kernel
theorem dX8_feed_27 : decode cX8_feed 27 = .ok (.getfield 10, 3) := by decide +kernel
theorem dX8_feed_30 : decode cX8_feed 30 = .ok (.iload_n 2, 1) := by decide +kernel
theorem dX8_feed_31 : decode cX8_feed 31 = .ok (.invokevirtual 48, 3) := by decide +kernel
theorem dX8_feed_34 : decode cX8_feed 34 = .ok (.aload_n 0, 1) := by decide +kernel
theorem dX8_feed_35 : decode cX8_feed 35 = .ok (.getfield 10, 3) := by decide +kernel
theorem dX8_feed_38 : decode cX8_feed 38 = .ok (.iload_n 3, 1) := by decide +kernel
theorem dX8_feed_39 : decode cX8_feed 39 = .ok (.invokevirtual 48, 3) := by decide +kernel
theorem dX8_feed_42 : decode cX8_feed 42 = .ok (.aload_n 0, 1) := by decide +kernel
theorem dX8_feed_43 : decode cX8_feed 43 = .ok (.getfield 10, 3) := by decide +kernel
theorem dX8_feed_46 : decode cX8_feed 46 = .ok (.iload 4, 2) := by decide +kernel
theorem dX8_feed_48 : decode cX8_feed 48 = .ok (.invokevirtual 48, 3) := by decide +kernel
theorem dX8_feed_51 : decode cX8_feed 51 = .ok (.aload_n 0, 1) := by decide +kernel
theorem dX8_feed_52 : decode cX8_feed 52 = .ok (.getfield 10, 3) := by decide +kernel
theorem dX8_feed_55 : decode cX8_feed 55 = .ok (.iload 5, 2) := by decide +kernel
theorem dX8_feed_57 : decode cX8_feed 57 = .ok (.invokevirtual 48, 3) := by decide +kernel
theorem dX8_feed_60 : decode cX8_feed 60 = .ok (.aload_n 0, 1) := by decide +kernel
theorem dX8_feed_61 : decode cX8_feed 61 = .ok (.getfield 10, 3) := by decide +kernel
theorem dX8_feed_64 : decode cX8_feed 64 = .ok (.getfield 44, 3) := by decide +kernel
theorem dX8_feed_67 : decode cX8_feed 67 = .ok (.ireturn, 1) := by decide +kernel
theorem dX8_end_0 : decode cX8_end 0 = .ok (.iload_n 1, 1) := by decide +kernel
theorem dX8_end_1 : decode cX8_end 1 = .ok (.ifCond .lt 14, 3) := by decide +kernel
theorem dX8_end_4 : decode cX8_end 4 = .ok (.iload_n 1, 1) := by decide +kernel
theorem dX8_end_5 : decode cX8_end 5 = .ok (.aload_n 0, 1) := by decide +kernel
theorem dX8_end_6 : decode cX8_end 6 = .ok (.getfield 10, 3) := by decide +kernel
theorem dX8_end_9 : decode cX8_end 9 = .ok (.getfield 44, 3) := by decide +kernel
theorem dX8_end_12 : decode cX8_end 12 = .ok (.if_icmp .le 5, 3) := by decide +kernel
theorem dX8_end_15 : decode cX8_end 15 = .ok (.iconst 0, 1) := by decide +kernel
theorem dX8_end_16 : decode cX8_end 16 = .ok (.ireturn, 1) := by decide +kernel
theorem dX8_end_17 : decode cX8_end 17 = .ok (.aload_n 0, 1) := by decide +kernel
theorem dX8_end_18 : decode cX8_end 18 = .ok (.getfield 10, 3) := by decide +kernel
theorem dX8_end_21 : decode cX8_end 21 = .ok (.iload_n 1, 1) := by decide +kernel
theorem dX8_end_22 : decode cX8_end 22 = .ok (.putfield 44, 3) := by decide +kernel
theorem dX8_end_25 : decode cX8_end 25 = .ok (.iconst 1, 1) := by decide +kernel
theorem dX8_end_26 : decode cX8_end 26 = .ok (.ireturn, 1) := by decide +kernel
theorem dX8_tell_0 : decode cX8_tell 0 = .ok (.iconst 0, 1) := by decide +kernel
theorem dX8_tell_1 : decode cX8_tell 1 = .ok (.istore_n 1, 1) := by decide +kernel
theorem dX8_tell_2 : decode cX8_tell 2 = .ok (.aload_n 0, 1) := by decide +kernel
theorem dX8_tell_3 : decode cX8_tell 3 = .ok (.getfield 32, 3) := by decide +kernel
theorem dX8_tell_6 : decode cX8_tell 6 = .ok (.aload_n 0, 1) := by decide +kernel
theorem dX8_tell_7 : decode cX8_tell 7 = .ok (.getfield 28, 3) := by decide +kernel
theorem dX8_tell_10 : decode cX8_tell 10 = .ok (.invokevirtual 52, 3) := by decide +kernel
theorem dX8_tell_13 : decode cX8_tell 13 = .ok (.aload_n 0, 1) := by decide +kernel
theorem dX8_tell_14 : decode cX8_tell 14 = .ok (.getfield 40, 3) := by decide +kernel
theorem dX8_tell_17 : decode cX8_tell 17 = .ok (.invokevirtual 56, 3) := by decide +kernel
theorem dX8_tell_20 : decode cX8_tell 20 = .ok (.iconst 0, 1) := by decide +kernel
theorem dX8_tell_21 : decode cX8_tell 21 = .ok (.istore_n 2, 1) := by decide +kernel
theorem dX8_tell_22 : decode cX8_tell 22 = .ok (.iload_n 2, 1) := by decide +kernel
theorem dX8_tell_23 : decode cX8_tell 23 = .ok (.sipush 400, 3) := by decide +kernel
theorem dX8_tell_26 : decode cX8_tell 26 = .ok (.if_icmp .ge 57, 3) := by decide +kernel
theorem dX8_tell_29 : decode cX8_tell 29 = .ok (.aload_n 0, 1) := by decide +kernel
theorem dX8_tell_30 : decode cX8_tell 30 = .ok (.getfield 40, 3) := by decide +kernel
theorem dX8_tell_33 : decode cX8_tell 33 = .ok (.invokevirtual 59, 3) := by decide +kernel
theorem dX8_tell_36 : decode cX8_tell 36 = .ok (.ifCond .eq 47, 3) := by decide +kernel
theorem dX8_tell_39 : decode cX8_tell 39 = .ok (.aload_n 0, 1) := by decide +kernel
theorem dX8_tell_40 : decode cX8_tell 40 = .ok (.getfield 40, 3) := by decide +kernel
theorem dX8_tell_43 : decode cX8_tell 43 = .ok (.aload_n 0, 1) := by decide +kernel
theorem dX8_tell_44 : decode cX8_tell 44 = .ok (.getfield 32, 3) := by decide +kernel
theorem dX8_tell_47 : decode cX8_tell 47 = .ok (.invokevirtual 63, 3) := by decide +kernel
theorem dX8_tell_50 : decode cX8_tell 50 = .ok (.ifCond .eq 27, 3) := by decide +kernel
theorem dX8_tell_53 : decode cX8_tell 53 = .ok (.aload_n 0, 1) := by decide +kernel
theorem dX8_tell_54 : decode cX8_tell 54 = .ok (.getfield 32, 3) := by decide +kernel
theorem dX8_tell_57 : decode cX8_tell 57 = .ok (.aload_n 0, 1) := by decide +kernel
theorem dX8_tell_58 : decode cX8_tell 58 = .ok (.getfield 40, 3) := by decide +kernel
theorem dX8_tell_61 : decode cX8_tell 61 = .ok (.getfield 67, 3) := by decide +kernel
theorem dX8_tell_64 : decode cX8_tell 64 = .ok (.aload_n 0, 1) := by decide +kernel
theorem dX8_tell_65 : decode cX8_tell 65 = .ok (.getfield 40, 3) := by decide +kernel
theorem dX8_tell_68 : decode cX8_tell 68 = .ok (.getfield 71, 3) := by decide +kernel
theorem dX8_tell_71 : decode cX8_tell 71 = .ok (.invokevirtual 75, 3) := by decide +kernel
theorem dX8_tell_74 : decode cX8_tell 74 = .ok (.iinc 1 1, 3) := by decide +kernel
theorem dX8_tell_77 : decode cX8_tell 77 = .ok (.iinc 2 1, 3) := by decide +kernel
theorem dX8_tell_80 : decode cX8_tell 80 = .ok (.goto (-58), 3) := by decide +kernel
theorem dX8_tell_83 : decode cX8_tell 83 = .ok (.aload_n 0, 1) := by decide +kernel
theorem dX8_tell_84 : decode cX8_tell 84 = .ok (.getfield 10, 3) := by decide +kernel
theorem dX8_tell_87 : decode cX8_tell 87 = .ok (.iconst 0, 1) := by decide +kernel
theorem dX8_tell_88 : decode cX8_tell 88 = .ok (.putfield 44, 3) := by decide +kernel
theorem dX8_tell_91 : decode cX8_tell 91 = .ok (.aload_n 0, 1) := by decide +kernel
theorem dX8_tell_92 : decode cX8_tell 92 = .ok (.getfield 40, 3) := by decide +kernel
theorem dX8_tell_95 : decode cX8_tell 95 = .ok (.getfield 79, 3) := by decide +kernel
theorem dX8_tell_98 : decode cX8_tell 98 = .ok (.ifCond .eq 5, 3) := by decide +kernel
theorem dX8_tell_101 : decode cX8_tell 101 = .ok (.iconst (-1), 1) := by decide +kernel
theorem dX8_tell_102 : decode cX8_tell 102 = .ok (.ireturn, 1) := by decide +kernel
theorem dX8_tell_103 : decode cX8_tell 103 = .ok (.aload_n 0, 1) := by decide +kernel
theorem dX8_tell_104 : decode cX8_tell 104 = .ok (.getfield 28, 3) := by decide +kernel
theorem dX8_tell_107 : decode cX8_tell 107 = .ok (.astore_n 2, 1) := by decide +kernel
theorem dX8_tell_108 : decode cX8_tell 108 = .ok (.aload_n 0, 1) := by decide +kernel
theorem dX8_tell_109 : decode cX8_tell 109 = .ok (.aload_n 0, 1) := by decide +kernel
theorem dX8_tell_110 : decode cX8_tell 110 = .ok (.getfield 32, 3) := by decide +kernel
theorem dX8_tell_113 : decode cX8_tell 113 = .ok (.putfield 28, 3) := by decide +kernel
theorem dX8_tell_116 : decode cX8_tell 116 = .ok (.aload_n 0, 1) := by decide +kernel
theorem dX8_tell_117 : decode cX8_tell 117 = .ok (.aload_n 2, 1) := by decide +kernel
theorem dX8_tell_118 : decode cX8_tell 118 = .ok (.putfield 32, 3) := by decide +kernel
theorem dX8_tell_121 : decode cX8_tell 121 = .ok (.iload_n 1, 1) := by decide +kernel
theorem dX8_tell_122 : decode cX8_tell 122 = .ok (.ireturn, 1) := by decide +kernel
theorem dX8_fault_0 : decode cX8_fault 0 = .ok (.aload_n 0, 1) := by decide +kernel
theorem dX8_fault_1 : decode cX8_fault 1 = .ok (.getfield 40, 3) := by decide +kernel
theorem dX8_fault_4 : decode cX8_fault 4 = .ok (.getfield 79, 3) := by decide +kernel
theorem dX8_fault_7 : decode cX8_fault 7 = .ok (.ireturn, 1) := by decide +kernel
theorem dX8_size_0 : decode cX8_size 0 = .ok (.iload_n 1, 1) := by decide +kernel
theorem dX8_size_1 : decode cX8_size 1 = .ok (.aload_n 0, 1) := by decide +kernel
theorem dX8_size_2 : decode cX8_size 2 = .ok (.getfield 28, 3) := by decide +kernel
theorem dX8_size_5 : decode cX8_size 5 = .ok (.getfield 82, 3) := by decide +kernel
theorem dX8_size_8 : decode cX8_size 8 = .ok (.if_icmp .eq 10, 3) := by decide +kernel
theorem dX8_size_11 : decode cX8_size 11 = .ok (.iload_n 1, 1) := by decide +kernel
theorem dX8_size_12 : decode cX8_size 12 = .ok (.invokestatic 85, 3) := by decide +kernel
theorem dX8_size_15 : decode cX8_size 15 = .ok (.ifCond .ne 5, 3) := by decide +kernel
theorem dX8_size_18 : decode cX8_size 18 = .ok (.iconst 0, 1) := by decide +kernel
theorem dX8_size_19 : decode cX8_size 19 = .ok (.ireturn, 1) := by decide +kernel
theorem dX8_size_20 : decode cX8_size 20 = .ok (.aload_n 0, 1) := by decide +kernel
theorem dX8_size_21 : decode cX8_size 21 = .ok (.getfield 28, 3) := by decide +kernel
theorem dX8_size_24 : decode cX8_size 24 = .ok (.iload_n 1, 1) := by decide +kernel
theorem dX8_size_25 : decode cX8_size 25 = .ok (.invokevirtual 89, 3) := by decide +kernel
theorem dX8_size_28 : decode cX8_size 28 = .ok (.iconst 1, 1) := by decide +kernel
theorem dX8_size_29 : decode cX8_size 29 = .ok (.ireturn, 1) := by decide +kernel
theorem dX8_back_0 : decode cX8_back 0 = .ok (.iload_n 1, 1) := by decide +kernel
theorem dX8_back_1 : decode cX8_back 1 = .ok (.iconst 0, 1) := by decide +kernel
theorem dX8_back_2 : decode cX8_back 2 = .ok (.sipush 9999, 3) := by decide +kernel
theorem dX8_back_5 : decode cX8_back 5 = .ok (.invokestatic 92, 3) := by decide +kernel
theorem dX8_back_8 : decode cX8_back 8 = .ok (.ifCond .eq 24, 3) := by decide +kernel
theorem dX8_back_11 : decode cX8_back 11 = .ok (.iload_n 2, 1) := by decide +kernel
theorem dX8_back_12 : decode cX8_back 12 = .ok (.iconst 1, 1) := by decide +kernel
theorem dX8_back_13 : decode cX8_back 13 = .ok (.bipush 9, 2) := by decide +kernel
theorem dX8_back_15 : decode cX8_back 15 = .ok (.invokestatic 92, 3) := by decide +kernel
theorem dX8_back_18 : decode cX8_back 18 = .ok (.ifCond .eq 14, 3) := by decide +kernel
theorem dX8_back_21 : decode cX8_back 21 = .ok (.aload_n 0, 1) := by decide +kernel
theorem dX8_back_22 : decode cX8_back 22 = .ok (.getfield 28, 3) := by decide +kernel
theorem dX8_back_25 : decode cX8_back 25 = .ok (.iload_n 1, 1) := by decide +kernel
theorem dX8_back_26 : decode cX8_back 26 = .ok (.invokevirtual 96, 3) := by decide +kernel
theorem dX8_back_29 : decode cX8_back 29 = .ok (.ifCond .eq 5, 3) := by decide +kernel
theorem dX8_back_32 : decode cX8_back 32 = .ok (.iconst (-1), 1) := by decide +kernel
theorem dX8_back_33 : decode cX8_back 33 = .ok (.ireturn, 1) := by decide +kernel
theorem dX8_back_34 : decode cX8_back 34 = .ok (.aload_n 0, 1) := by decide +kernel
theorem dX8_back_35 : decode cX8_back 35 = .ok (.getfield 28, 3) := by decide +kernel
theorem dX8_back_38 : decode cX8_back 38 = .ok (.getfield 99, 3) := by decide +kernel
theorem dX8_back_41 : decode cX8_back 41 = .ok (.bipush 8, 2) := by decide +kernel
theorem dX8_back_43 : decode cX8_back 43 = .ok (.if_icmp .lt 6, 3) := by decide +kernel
theorem dX8_back_46 : decode cX8_back 46 = .ok (.bipush (-2), 2) := by decide +kernel
theorem dX8_back_48 : decode cX8_back 48 = .ok (.ireturn, 1) := by decide +kernel
theorem dX8_back_49 : decode cX8_back 49 = .ok (.aload_n 0, 1) := by decide +kernel
theorem dX8_back_50 : decode cX8_back 50 = .ok (.getfield 28, 3) := by decide +kernel
theorem dX8_back_53 : decode cX8_back 53 = .ok (.iload_n 1, 1) := by decide +kernel
theorem dX8_back_54 : decode cX8_back 54 = .ok (.iload_n 2, 1) := by decide +kernel
theorem dX8_back_55 : decode cX8_back 55 = .ok (.invokevirtual 102, 3) := by decide +kernel
theorem dX8_back_58 : decode cX8_back 58 = .ok (.aload_n 0, 1) := by decide +kernel
theorem dX8_back_59 : decode cX8_back 59 = .ok (.getfield 28, 3) := by decide +kernel
theorem dX8_back_62 : decode cX8_back 62 = .ok (.getfield 99, 3) := by decide +kernel
theorem dX8_back_65 : decode cX8_back 65 = .ok (.iconst 1, 1) := by decide +kernel
theorem dX8_back_66 : decode cX8_back 66 = .ok (.isub, 1) := by decide +kernel
theorem dX8_back_67 : decode cX8_back 67 = .ok (.ireturn, 1) := by decide +kernel
theorem dX8_weigh_0 : decode cX8_weigh 0 = .ok (.aload_n 0, 1) := by decide +kernel
theorem dX8_weigh_1 : decode cX8_weigh 1 = .ok (.getfield 28, 3) := by decide +kernel
theorem dX8_weigh_4 : decode cX8_weigh 4 = .ok (.iload_n 1, 1) := by decide +kernel
theorem dX8_weigh_5 : decode cX8_weigh 5 = .ok (.invokevirtual 106, 3) := by decide +kernel
theorem dX8_weigh_8 : decode cX8_weigh 8 = .ok (.ifCond .eq 26, 3) := by decide +kernel
theorem dX8_weigh_11 : decode cX8_weigh 11 = .ok (.iload_n 2, 1) := by decide +kernel
theorem dX8_weigh_12 : decode cX8_weigh 12 = .ok (.iconst 1, 1) := by decide +kernel
theorem dX8_weigh_13 : decode cX8_weigh 13 = .ok (.bipush 9, 2) := by decide +kernel
theorem dX8_weigh_15 : decode cX8_weigh 15 = .ok (.invokestatic 92, 3) := by decide +kernel
theorem dX8_weigh_18 : decode cX8_weigh 18 = .ok (.ifCond .eq 16, 3) := by decide +kernel
theorem dX8_weigh_21 : decode cX8_weigh 21 = .ok (.aload_n 0, 1) := by decide +kernel
theorem dX8_weigh_22 : decode cX8_weigh 22 = .ok (.getfield 28, 3) := by decide +kernel
theorem dX8_weigh_25 : decode cX8_weigh 25 = .ok (.getfield 109, 3) := by decide +kernel
theorem dX8_weigh_28 : decode cX8_weigh 28 = .ok (.iload_n 1, 1) := by decide +kernel
theorem dX8_weigh_29 : decode cX8_weigh 29 = .ok (.iaload, 1) := by decide +kernel
theorem dX8_weigh_30 : decode cX8_weigh 30 = .ok (.iload_n 2, 1) := by decide +kernel
theorem dX8_weigh_31 : decode cX8_weigh 31 = .ok (.if_icmp .ne 5, 3) := by decide +kernel
theorem dX8_weigh_34 : decode cX8_weigh 34 = .ok (.iconst 0, 1) := by decide +kernel
theorem dX8_weigh_35 : decode cX8_weigh 35 = .ok (.ireturn, 1) := by decide +kernel
theorem dX8_weigh_36 : decode cX8_weigh 36 = .ok (.aload_n 0, 1) := by decide +kernel
theorem dX8_weigh_37 : decode cX8_weigh 37 = .ok (.getfield 28, 3) := by decide +kernel
theorem dX8_weigh_40 : decode cX8_weigh 40 = .ok (.getfield 109, 3) := by decide +kernel
theorem dX8_weigh_43 : decode cX8_weigh 43 = .ok (.iload_n 1, 1) := by decide +kernel
theorem dX8_weigh_44 : decode cX8_weigh 44 = .ok (.iload_n 2, 1) := by decide +kernel
theorem dX8_weigh_45 : decode cX8_weigh 45 = .ok (.iastore, 1) := by decide +kernel
theorem dX8_weigh_46 : decode cX8_weigh 46 = .ok (.iconst 1, 1) := by decide +kernel
theorem dX8_weigh_47 : decode cX8_weigh 47 = .ok (.ireturn, 1) := by decide +kernel
theorem dX8_see_0 : decode cX8_see 0 = .ok (.iload_n 1, 1) := by decide +kernel
theorem dX8_see_1 : decode cX8_see 1 = .ok (.iconst (-1), 1) := by decide +kernel
theorem dX8_see_2 : decode cX8_see 2 = .ok (.if_icmp .eq 10, 3) := by decide +kernel
theorem dX8_see_5 : decode cX8_see 5 = .ok (.iload_n 1, 1) := by decide +kernel
theorem dX8_see_6 : decode cX8_see 6 = .ok (.invokestatic 112, 3) := by decide +kernel
theorem dX8_see_9 : decode cX8_see 9 = .ok (.ifCond .eq 21, 3) := by decide +kernel
theorem dX8_see_12 : decode cX8_see 12 = .ok (.aload_n 0, 1) := by decide +kernel
theorem dX8_see_13 : decode cX8_see 13 = .ok (.getfield 28, 3) := by decide +kernel
theorem dX8_see_16 : decode cX8_see 16 = .ok (.iload_n 2, 1) := by decide +kernel
theorem dX8_see_17 : decode cX8_see 17 = .ok (.invokevirtual 106, 3) := by decide +kernel
theorem dX8_see_20 : decode cX8_see 20 = .ok (.ifCond .eq 10, 3) := by decide +kernel
theorem dX8_see_23 : decode cX8_see 23 = .ok (.iload_n 3, 1) := by decide +kernel
theorem dX8_see_24 : decode cX8_see 24 = .ok (.invokestatic 115, 3) := by decide +kernel
theorem dX8_see_27 : decode cX8_see 27 = .ok (.ifCond .ne 5, 3) := by decide +kernel
theorem dX8_see_30 : decode cX8_see 30 = .ok (.iconst (-1), 1) := by decide +kernel
theorem dX8_see_31 : decode cX8_see 31 = .ok (.ireturn, 1) := by decide +kernel
theorem dX8_see_32 : decode cX8_see 32 = .ok (.aload_n 0, 1) := by decide +kernel
theorem dX8_see_33 : decode cX8_see 33 = .ok (.getfield 28, 3) := by decide +kernel
theorem dX8_see_36 : decode cX8_see 36 = .ok (.iload_n 1, 1) := by decide +kernel
theorem dX8_see_37 : decode cX8_see 37 = .ok (.iload_n 2, 1) := by decide +kernel
theorem dX8_see_38 : decode cX8_see 38 = .ok (.iload_n 3, 1) := by decide +kernel
theorem dX8_see_39 : decode cX8_see 39 = .ok (.invokevirtual 118, 3) := by decide +kernel
theorem dX8_see_42 : decode cX8_see 42 = .ok (.ireturn, 1) := by decide +kernel
theorem dX8_set_0 : decode cX8_set 0 = .ok (.iload_n 1, 1) := by decide +kernel
theorem dX8_set_1 : decode cX8_set 1 = .ok (.ifCond .ne 34, 3) := by decide +kernel
theorem dX8_set_4 : decode cX8_set 4 = .ok (.iload_n 2, 1) := by decide +kernel
theorem dX8_set_5 : decode cX8_set 5 = .ok (.iconst 1, 1) := by decide +kernel
theorem dX8_set_6 : decode cX8_set 6 = .ok (.bipush 16, 2) := by decide +kernel
theorem dX8_set_8 : decode cX8_set 8 = .ok (.invokestatic 92, 3) := by decide +kernel
theorem dX8_set_11 : decode cX8_set 11 = .ok (.ifCond .eq 24, 3) := by decide +kernel
theorem dX8_set_14 : decode cX8_set 14 = .ok (.iload_n 2, 1) := by decide +kernel
theorem dX8_set_15 : decode cX8_set 15 = .ok (.aload_n 0, 1) := by decide +kernel
theorem dX8_set_16 : decode cX8_set 16 = .ok (.getfield 28, 3) := by decide +kernel
theorem dX8_set_19 : decode cX8_set 19 = .ok (.getfield 122, 3) := by decide +kernel
theorem dX8_set_22 : decode cX8_set 22 = .ok (.if_icmp .eq 13, 3) := by decide +kernel
theorem dX8_set_25 : decode cX8_set 25 = .ok (.aload_n 0, 1) := by decide +kernel
theorem dX8_set_26 : decode cX8_set 26 = .ok (.getfield 28, 3) := by decide +kernel
theorem dX8_set_29 : decode cX8_set 29 = .ok (.iload_n 2, 1) := by decide +kernel
theorem dX8_set_30 : decode cX8_set 30 = .ok (.invokevirtual 125, 3) := by decide +kernel
theorem dX8_set_33 : decode cX8_set 33 = .ok (.iconst 1, 1) := by decide +kernel
theorem dX8_set_34 : decode cX8_set 34 = .ok (.ireturn, 1) := by decide +kernel
theorem dX8_set_35 : decode cX8_set 35 = .ok (.iload_n 1, 1) := by decide +kernel
theorem dX8_set_36 : decode cX8_set 36 = .ok (.iconst 1, 1) := by decide +kernel
theorem dX8_set_37 : decode cX8_set 37 = .ok (.if_icmp .ne 34, 3) := by decide +kernel
theorem dX8_set_40 : decode cX8_set 40 = .ok (.iload_n 2, 1) := by decide +kernel
theorem dX8_set_41 : decode cX8_set 41 = .ok (.iconst 0, 1) := by decide +kernel
theorem dX8_set_42 : decode cX8_set 42 = .ok (.bipush 99, 2) := by decide +kernel
theorem dX8_set_44 : decode cX8_set 44 = .ok (.invokestatic 92, 3) := by decide +kernel
theorem dX8_set_47 : decode cX8_set 47 = .ok (.ifCond .eq 24, 3) := by decide +kernel
theorem dX8_set_50 : decode cX8_set 50 = .ok (.iload_n 2, 1) := by decide +kernel
theorem dX8_set_51 : decode cX8_set 51 = .ok (.aload_n 0, 1) := by decide +kernel
theorem dX8_set_52 : decode cX8_set 52 = .ok (.getfield 28, 3) := by decide +kernel
theorem dX8_set_55 : decode cX8_set 55 = .ok (.getfield 128, 3) := by decide +kernel
theorem dX8_set_58 : decode cX8_set 58 = .ok (.if_icmp .eq 13, 3) := by decide +kernel
theorem dX8_set_61 : decode cX8_set 61 = .ok (.aload_n 0, 1) := by decide +kernel
theorem dX8_set_62 : decode cX8_set 62 = .ok (.getfield 28, 3) := by decide +kernel
theorem dX8_set_65 : decode cX8_set 65 = .ok (.iload_n 2, 1) := by decide +kernel
theorem dX8_set_66 : decode cX8_set 66 = .ok (.invokevirtual 131, 3) := by decide +kernel
theorem dX8_set_69 : decode cX8_set 69 = .ok (.iconst 1, 1) := by decide +kernel
theorem dX8_set_70 : decode cX8_set 70 = .ok (.ireturn, 1) := by decide +kernel
theorem dX8_set_71 : decode cX8_set 71 = .ok (.iconst 0, 1) := by decide +kernel
theorem dX8_set_72 : decode cX8_set 72 = .ok (.ireturn, 1) := by decide +kernel
theorem dX8_tick_0 : decode cX8_tick 0 = .ok (.iload_n 1, 1) := by decide +kernel
theorem dX8_tick_1 : decode cX8_tick 1 = .ok (.iconst 1, 1) := by decide +kernel
theorem dX8_tick_2 : decode cX8_tick 2 = .ok (.sipush 999, 3) := by decide +kernel
theorem dX8_tick_5 : decode cX8_tick 5 = .ok (.invokestatic 92, 3) := by decide +kernel
theorem dX8_tick_8 : decode cX8_tick 8 = .ok (.ifCond .ne 5, 3) := by decide +kernel
theorem dX8_tick_11 : decode cX8_tick 11 = .ok (.iconst (-1), 1) := by decide +kernel
theorem dX8_tick_12 : decode cX8_tick 12 = .ok (.ireturn, 1) := by decide +kernel
theorem dX8_tick_13 : decode cX8_tick 13 = .ok (.aload_n 0, 1) := by decide +kernel
theorem dX8_tick_14 : decode cX8_tick 14 = .ok (.getfield 28, 3) := by decide +kernel
theorem dX8_tick_17 : decode cX8_tick 17 = .ok (.iload_n 1, 1) := by decide +kernel
theorem dX8_tick_18 : decode cX8_tick 18 = .ok (.invokevirtual 134, 3) := by decide +kernel
theorem dX8_tick_21 : decode cX8_tick 21 = .ok (.aload_n 0, 1) := by decide +kernel
theorem dX8_tick_22 : decode cX8_tick 22 = .ok (.getfield 28, 3) := by decide +kernel
theorem dX8_tick_25 : decode cX8_tick 25 = .ok (.getfield 137, 3) := by decide +kernel
theorem dX8_tick_28 : decode cX8_tick 28 = .ok (.ireturn, 1) := by decide +kernel
theorem dX8_pack_0 : decode cX8_pack 0 = .ok (.iload_n 1, 1) := by decide +kernel
theorem dX8_pack_1 : decode cX8_pack 1 = .ok (.invokestatic 112, 3) := by decide +kernel
theorem dX8_pack_4 : decode cX8_pack 4 = .ok (.ifCond .eq 10, 3) := by decide +kernel
theorem dX8_pack_7 : decode cX8_pack 7 = .ok (.iload_n 2, 1) := by decide +kernel
theorem dX8_pack_8 : decode cX8_pack 8 = .ok (.invokestatic 140, 3) := by decide +kernel
theorem dX8_pack_11 : decode cX8_pack 11 = .ok (.ifCond .ne 6, 3) := by decide +kernel
theorem dX8_pack_14 : decode cX8_pack 14 = .ok (.bipush (-2), 2) := by decide +kernel
theorem dX8_pack_16 : decode cX8_pack 16 = .ok (.ireturn, 1) := by decide +kernel
theorem dX8_pack_17 : decode cX8_pack 17 = .ok (.aload_n 0, 1) := by decide +kernel
theorem dX8_pack_18 : decode cX8_pack 18 = .ok (.getfield 28, 3) := by decide +kernel
theorem dX8_pack_21 : decode cX8_pack 21 = .ok (.iload_n 1, 1) := by decide +kernel
theorem dX8_pack_22 : decode cX8_pack 22 = .ok (.iload_n 2, 1) := by decide +kernel
theorem dX8_pack_23 : decode cX8_pack 23 = .ok (.invokevirtual 143, 3) := by decide +kernel
theorem dX8_pack_26 : decode cX8_pack 26 = .ok (.ireturn, 1) := by decide +kernel
theorem dX8_keep_0 : decode cX8_keep 0 = .ok (.iload_n 1, 1) := by decide +kernel
theorem dX8_keep_1 : decode cX8_keep 1 = .ok (.invokestatic 112, 3) := by decide +kernel
theorem dX8_keep_4 : decode cX8_keep 4 = .ok (.ifCond .ne 5, 3) := by decide +kernel
theorem dX8_keep_7 : decode cX8_keep 7 = .ok (.iconst 0, 1) := by decide +kernel
theorem dX8_keep_8 : decode cX8_keep 8 = .ok (.ireturn, 1) := by decide +kernel
theorem dX8_keep_9 : decode cX8_keep 9 = .ok (.aload_n 0, 1) := by decide +kernel
theorem dX8_keep_10 : decode cX8_keep 10 = .ok (.getfield 28, 3) := by decide +kernel
theorem dX8_keep_13 : decode cX8_keep 13 = .ok (.getfield 147, 3) := by decide +kernel
theorem dX8_keep_16 : decode cX8_keep 16 = .ok (.iload_n 1, 1) := by decide +kernel
theorem dX8_keep_17 : decode cX8_keep 17 = .ok (.aaload, 1) := by decide +kernel
theorem dX8_keep_18 : decode cX8_keep 18 = .ok (.astore_n 2, 1) := by decide +kernel
theorem dX8_keep_19 : decode cX8_keep 19 = .ok (.aload_n 0, 1) := by decide +kernel
theorem dX8_keep_20 : decode cX8_keep 20 = .ok (.aload_n 2, 1) := by decide +kernel
theorem dX8_keep_21 : decode cX8_keep 21 = .ok (.getfield 151, 3) := by decide +kernel
theorem dX8_keep_24 : decode cX8_keep 24 = .ok (.aload_n 2, 1) := by decide +kernel
theorem dX8_keep_25 : decode cX8_keep 25 = .ok (.invokevirtual 156, 3) := by decide +kernel
theorem dX8_keep_28 : decode cX8_keep 28 = .ok (.invokevirtual 160, 3) := by decide +kernel
theorem dX8_keep_31 : decode cX8_keep 31 = .ok (.aload_n 2, 1) := by decide +kernel
theorem dX8_keep_32 : decode cX8_keep 32 = .ok (.iconst 1, 1) := by decide +kernel
theorem dX8_keep_33 : decode cX8_keep 33 = .ok (.putfield 164, 3) := by decide +kernel
theorem dX8_keep_36 : decode cX8_keep 36 = .ok (.iconst 1, 1) := by decide +kernel
theorem dX8_keep_37 : decode cX8_keep 37 = .ok (.ireturn, 1) := by decide +kernel
theorem dX8_count_0 : decode cX8_count 0 = .ok (.iload_n 1, 1) := by decide +kernel
theorem dX8_count_1 : decode cX8_count 1 = .ok (.tableswitch 87 0 5 #[39, 47, 55, 63, 71, 79], 39) := by decide +kernel
theorem dX8_count_40 : decode cX8_count 40 = .ok (.aload_n 0, 1) := by decide +kernel
theorem dX8_count_41 : decode cX8_count 41 = .ok (.getfield 28, 3) := by decide +kernel
theorem dX8_count_44 : decode cX8_count 44 = .ok (.getfield 82, 3) := by decide +kernel
theorem dX8_count_47 : decode cX8_count 47 = .ok (.ireturn, 1) := by decide +kernel
theorem dX8_count_48 : decode cX8_count 48 = .ok (.aload_n 0, 1) := by decide +kernel
theorem dX8_count_49 : decode cX8_count 49 = .ok (.getfield 28, 3) := by decide +kernel
theorem dX8_count_52 : decode cX8_count 52 = .ok (.getfield 99, 3) := by decide +kernel
theorem dX8_count_55 : decode cX8_count 55 = .ok (.ireturn, 1) := by decide +kernel
theorem dX8_count_56 : decode cX8_count 56 = .ok (.aload_n 0, 1) := by decide +kernel
theorem dX8_count_57 : decode cX8_count 57 = .ok (.getfield 28, 3) := by decide +kernel
theorem dX8_count_60 : decode cX8_count 60 = .ok (.getfield 137, 3) := by decide +kernel
theorem dX8_count_63 : decode cX8_count 63 = .ok (.ireturn, 1) := by decide +kernel
theorem dX8_count_64 : decode cX8_count 64 = .ok (.aload_n 0, 1) := by decide +kernel
theorem dX8_count_65 : decode cX8_count 65 = .ok (.getfield 28, 3) := by decide +kernel
theorem dX8_count_68 : decode cX8_count 68 = .ok (.getfield 122, 3) := by decide +kernel
theorem dX8_count_71 : decode cX8_count 71 = .ok (.ireturn, 1) := by decide +kernel
theorem dX8_count_72 : decode cX8_count 72 = .ok (.aload_n 0, 1) := by decide +kernel
theorem dX8_count_73 : decode cX8_count 73 = .ok (.getfield 28, 3) := by decide +kernel
theorem dX8_count_76 : decode cX8_count 76 = .ok (.getfield 128, 3) := by decide +kernel
theorem dX8_count_79 : decode cX8_count 79 = .ok (.ireturn, 1) := by decide +kernel
theorem dX8_count_80 : decode cX8_count 80 = .ok (.aload_n 0, 1) := by decide +kernel
theorem dX8_count_81 : decode cX8_count 81 = .ok (.getfield 10, 3) := by decide +kernel
theorem dX8_count_84 : decode cX8_count 84 = .ok (.getfield 44, 3) := by decide +kernel
theorem dX8_count_87 : decode cX8_count 87 = .ok (.ireturn, 1) := by decide +kernel
theorem dX8_count_88 : decode cX8_count 88 = .ok (.iconst (-1), 1) := by decide +kernel
theorem dX8_count_89 : decode cX8_count 89 = .ok (.ireturn, 1) := by decide +kernel
theorem dX8_of_0 : decode cX8_of 0 = .ok (.aload_n 0, 1) := by decide +kernel
theorem dX8_of_1 : decode cX8_of 1 = .ok (.getfield 28, 3) := by decide +kernel
theorem dX8_of_4 : decode cX8_of 4 = .ok (.iload_n 1, 1) := by decide +kernel
theorem dX8_of_5 : decode cX8_of 5 = .ok (.invokevirtual 106, 3) := by decide +kernel
theorem dX8_of_8 : decode cX8_of 8 = .ok (.ifCond .ne 13, 3) := by decide +kernel
theorem dX8_of_11 : decode cX8_of 11 = .ok (.new 168, 3) := by decide +kernel
theorem dX8_of_14 : decode cX8_of 14 = .ok (.dup, 1) := by decide +kernel
theorem dX8_of_15 : decode cX8_of 15 = .ok (.ldc 170, 2) := by decide +kernel
theorem dX8_of_17 : decode cX8_of 17 = .ok (.invokespecial 172, 3) := by decide +kernel
theorem dX8_of_20 : decode cX8_of 20 = .ok (.athrow, 1) := by decide +kernel
theorem dX8_of_21 : decode cX8_of 21 = .ok (.iload_n 2, 1) := by decide +kernel
theorem dX8_of_22 : decode cX8_of 22 = .ok (.bipush 10, 2) := by decide +kernel
theorem dX8_of_24 : decode cX8_of 24 = .ok (.if_icmp .lt 31, 3) := by decide +kernel
theorem dX8_of_27 : decode cX8_of 27 = .ok (.iload_n 2, 1) := by decide +kernel
theorem dX8_of_28 : decode cX8_of 28 = .ok (.bipush 10, 2) := by decide +kernel
theorem dX8_of_30 : decode cX8_of 30 = .ok (.isub, 1) := by decide +kernel
theorem dX8_of_31 : decode cX8_of 31 = .ok (.invokestatic 112, 3) := by decide +kernel
theorem dX8_of_34 : decode cX8_of 34 = .ok (.ifCond .eq 21, 3) := by decide +kernel
theorem dX8_of_37 : decode cX8_of 37 = .ok (.aload_n 0, 1) := by decide +kernel
theorem dX8_of_38 : decode cX8_of 38 = .ok (.getfield 28, 3) := by decide +kernel
theorem dX8_of_41 : decode cX8_of 41 = .ok (.getfield 147, 3) := by decide +kernel
theorem dX8_of_44 : decode cX8_of 44 = .ok (.iload_n 2, 1) := by decide +kernel
theorem dX8_of_45 : decode cX8_of 45 = .ok (.bipush 10, 2) := by decide +kernel
theorem dX8_of_47 : decode cX8_of 47 = .ok (.isub, 1) := by decide +kernel
theorem dX8_of_48 : decode cX8_of 48 = .ok (.aaload, 1) := by decide +kernel
theorem dX8_of_49 : decode cX8_of 49 = .ok (.getfield 175, 3) := by decide +kernel
theorem dX8_of_52 : decode cX8_of 52 = .ok (.iload_n 1, 1) := by decide +kernel
theorem dX8_of_53 : decode cX8_of 53 = .ok (.iaload, 1) := by decide +kernel
theorem dX8_of_54 : decode cX8_of 54 = .ok (.ireturn, 1) := by decide +kernel
theorem dX8_of_55 : decode cX8_of 55 = .ok (.iload_n 2, 1) := by decide +kernel
theorem dX8_of_56 : decode cX8_of 56 = .ok (.tableswitch 92 0 3 #[32, 42, 52, 72], 32) := by decide +kernel
theorem dX8_of_88 : decode cX8_of 88 = .ok (.aload_n 0, 1) := by decide +kernel
theorem dX8_of_89 : decode cX8_of 89 = .ok (.getfield 28, 3) := by decide +kernel
theorem dX8_of_92 : decode cX8_of 92 = .ok (.getfield 178, 3) := by decide +kernel
theorem dX8_of_95 : decode cX8_of 95 = .ok (.iload_n 1, 1) := by decide +kernel
theorem dX8_of_96 : decode cX8_of 96 = .ok (.iaload, 1) := by decide +kernel
theorem dX8_of_97 : decode cX8_of 97 = .ok (.ireturn, 1) := by decide +kernel
theorem dX8_of_98 : decode cX8_of 98 = .ok (.aload_n 0, 1) := by decide +kernel
theorem dX8_of_99 : decode cX8_of 99 = .ok (.getfield 28, 3) := by decide +kernel
theorem dX8_of_102 : decode cX8_of 102 = .ok (.getfield 109, 3) := by decide +kernel
theorem dX8_of_105 : decode cX8_of 105 = .ok (.iload_n 1, 1) := by decide +kernel
theorem dX8_of_106 : decode cX8_of 106 = .ok (.iaload, 1) := by decide +kernel
theorem dX8_of_107 : decode cX8_of 107 = .ok (.ireturn, 1) := by decide +kernel
theorem dX8_of_108 : decode cX8_of 108 = .ok (.aload_n 0, 1) := by decide +kernel
theorem dX8_of_109 : decode cX8_of 109 = .ok (.getfield 28, 3) := by decide +kernel
theorem dX8_of_112 : decode cX8_of 112 = .ok (.getfield 178, 3) := by decide +kernel
theorem dX8_of_115 : decode cX8_of 115 = .ok (.iload_n 1, 1) := by decide +kernel
theorem dX8_of_116 : decode cX8_of 116 = .ok (.iaload, 1) := by decide +kernel
theorem dX8_of_117 : decode cX8_of 117 = .ok (.aload_n 0, 1) := by decide +kernel
theorem dX8_of_118 : decode cX8_of 118 = .ok (.getfield 28, 3) := by decide +kernel
theorem dX8_of_121 : decode cX8_of 121 = .ok (.getfield 82, 3) := by decide +kernel
theorem dX8_of_124 : decode cX8_of 124 = .ok (.invokestatic 181, 3) := by decide +kernel
theorem dX8_of_127 : decode cX8_of 127 = .ok (.ireturn, 1) := by decide +kernel
theorem dX8_of_128 : decode cX8_of 128 = .ok (.aload_n 0, 1) := by decide +kernel
theorem dX8_of_129 : decode cX8_of 129 = .ok (.getfield 28, 3) := by decide +kernel
theorem dX8_of_132 : decode cX8_of 132 = .ok (.getfield 178, 3) := by decide +kernel
theorem dX8_of_135 : decode cX8_of 135 = .ok (.iload_n 1, 1) := by decide +kernel
theorem dX8_of_136 : decode cX8_of 136 = .ok (.iaload, 1) := by decide +kernel
theorem dX8_of_137 : decode cX8_of 137 = .ok (.aload_n 0, 1) := by decide +kernel
theorem dX8_of_138 : decode cX8_of 138 = .ok (.getfield 28, 3) := by decide +kernel
theorem dX8_of_141 : decode cX8_of 141 = .ok (.getfield 82, 3) := by decide +kernel
theorem dX8_of_144 : decode cX8_of 144 = .ok (.invokestatic 184, 3) := by decide +kernel
theorem dX8_of_147 : decode cX8_of 147 = .ok (.ireturn, 1) := by decide +kernel
theorem dX8_of_148 : decode cX8_of 148 = .ok (.new 168, 3) := by decide +kernel
theorem dX8_of_151 : decode cX8_of 151 = .ok (.dup, 1) := by decide +kernel
theorem dX8_of_152 : decode cX8_of 152 = .ok (.ldc 187, 2) := by decide +kernel
theorem dX8_of_154 : decode cX8_of 154 = .ok (.invokespecial 172, 3) := by decide +kernel
theorem dX8_of_157 : decode cX8_of 157 = .ok (.athrow, 1) := by decide +kernel
theorem dX8_slot_0 : decode cX8_slot 0 = .ok (.aload_n 0, 1) := by decide +kernel
theorem dX8_slot_1 : decode cX8_slot 1 = .ok (.getfield 28, 3) := by decide +kernel
theorem dX8_slot_4 : decode cX8_slot 4 = .ok (.iload_n 1, 1) := by decide +kernel
theorem dX8_slot_5 : decode cX8_slot 5 = .ok (.invokevirtual 106, 3) := by decide +kernel
theorem dX8_slot_8 : decode cX8_slot 8 = .ok (.ifCond .eq 14, 3) := by decide +kernel
theorem dX8_slot_11 : decode cX8_slot 11 = .ok (.aload_n 0, 1) := by decide +kernel
theorem dX8_slot_12 : decode cX8_slot 12 = .ok (.getfield 28, 3) := by decide +kernel
theorem dX8_slot_15 : decode cX8_slot 15 = .ok (.iload_n 2, 1) := by decide +kernel
theorem dX8_slot_16 : decode cX8_slot 16 = .ok (.invokevirtual 189, 3) := by decide +kernel
theorem dX8_slot_19 : decode cX8_slot 19 = .ok (.ifCond .ne 5, 3) := by decide +kernel
theorem dX8_slot_22 : decode cX8_slot 22 = .ok (.iconst (-1), 1) := by decide +kernel
theorem dX8_slot_23 : decode cX8_slot 23 = .ok (.ireturn, 1) := by decide +kernel
theorem dX8_slot_24 : decode cX8_slot 24 = .ok (.aload_n 0, 1) := by decide +kernel
theorem dX8_slot_25 : decode cX8_slot 25 = .ok (.getfield 28, 3) := by decide +kernel
theorem dX8_slot_28 : decode cX8_slot 28 = .ok (.getfield 178, 3) := by decide +kernel
theorem dX8_slot_31 : decode cX8_slot 31 = .ok (.iload_n 1, 1) := by decide +kernel
theorem dX8_slot_32 : decode cX8_slot 32 = .ok (.iaload, 1) := by decide +kernel
theorem dX8_slot_33 : decode cX8_slot 33 = .ok (.istore_n 3, 1) := by decide +kernel
theorem dX8_slot_34 : decode cX8_slot 34 = .ok (.iload_n 3, 1) := by decide +kernel
theorem dX8_slot_35 : decode cX8_slot 35 = .ok (.aload_n 0, 1) := by decide +kernel
theorem dX8_slot_36 : decode cX8_slot 36 = .ok (.getfield 28, 3) := by decide +kernel
theorem dX8_slot_39 : decode cX8_slot 39 = .ok (.getfield 82, 3) := by decide +kernel
theorem dX8_slot_42 : decode cX8_slot 42 = .ok (.invokestatic 181, 3) := by decide +kernel
theorem dX8_slot_45 : decode cX8_slot 45 = .ok (.iload_n 2, 1) := by decide +kernel
theorem dX8_slot_46 : decode cX8_slot 46 = .ok (.iload_n 3, 1) := by decide +kernel
theorem dX8_slot_47 : decode cX8_slot 47 = .ok (.aload_n 0, 1) := by decide +kernel
theorem dX8_slot_48 : decode cX8_slot 48 = .ok (.getfield 28, 3) := by decide +kernel
theorem dX8_slot_51 : decode cX8_slot 51 = .ok (.getfield 82, 3) := by decide +kernel
theorem dX8_slot_54 : decode cX8_slot 54 = .ok (.invokestatic 184, 3) := by decide +kernel
theorem dX8_slot_57 : decode cX8_slot 57 = .ok (.imul, 1) := by decide +kernel
theorem dX8_slot_58 : decode cX8_slot 58 = .ok (.iadd, 1) := by decide +kernel
theorem dX8_slot_59 : decode cX8_slot 59 = .ok (.aload_n 0, 1) := by decide +kernel
theorem dX8_slot_60 : decode cX8_slot 60 = .ok (.getfield 28, 3) := by decide +kernel
theorem dX8_slot_63 : decode cX8_slot 63 = .ok (.getfield 82, 3) := by decide +kernel
theorem dX8_slot_66 : decode cX8_slot 66 = .ok (.invokestatic 192, 3) := by decide +kernel
theorem dX8_slot_69 : decode cX8_slot 69 = .ok (.ireturn, 1) := by decide +kernel
theorem dX8_table_0 : decode cX8_table 0 = .ok (.iload_n 1, 1) := by decide +kernel
theorem dX8_table_1 : decode cX8_table 1 = .ok (.invokestatic 112, 3) := by decide +kernel
theorem dX8_table_4 : decode cX8_table 4 = .ok (.ifCond .eq 14, 3) := by decide +kernel
theorem dX8_table_7 : decode cX8_table 7 = .ok (.aload_n 0, 1) := by decide +kernel
theorem dX8_table_8 : decode cX8_table 8 = .ok (.getfield 28, 3) := by decide +kernel
theorem dX8_table_11 : decode cX8_table 11 = .ok (.iload_n 2, 1) := by decide +kernel
theorem dX8_table_12 : decode cX8_table 12 = .ok (.invokevirtual 189, 3) := by decide +kernel
theorem dX8_table_15 : decode cX8_table 15 = .ok (.ifCond .ne 5, 3) := by decide +kernel
theorem dX8_table_18 : decode cX8_table 18 = .ok (.iconst (-1), 1) := by decide +kernel
theorem dX8_table_19 : decode cX8_table 19 = .ok (.ireturn, 1) := by decide +kernel
theorem dX8_table_20 : decode cX8_table 20 = .ok (.aload_n 0, 1) := by decide +kernel
theorem dX8_table_21 : decode cX8_table 21 = .ok (.aload_n 0, 1) := by decide +kernel
theorem dX8_table_22 : decode cX8_table 22 = .ok (.getfield 19, 3) := by decide +kernel
theorem dX8_table_25 : decode cX8_table 25 = .ok (.getfield 195, 3) := by decide +kernel
theorem dX8_table_28 : decode cX8_table 28 = .ok (.aload_n 0, 1) := by decide +kernel
theorem dX8_table_29 : decode cX8_table 29 = .ok (.getfield 28, 3) := by decide +kernel
theorem dX8_table_32 : decode cX8_table 32 = .ok (.getfield 147, 3) := by decide +kernel
theorem dX8_table_35 : decode cX8_table 35 = .ok (.iload_n 1, 1) := by decide +kernel
theorem dX8_table_36 : decode cX8_table 36 = .ok (.aaload, 1) := by decide +kernel
theorem dX8_table_37 : decode cX8_table 37 = .ok (.invokevirtual 156, 3) := by decide +kernel
theorem dX8_table_40 : decode cX8_table 40 = .ok (.invokevirtual 160, 3) := by decide +kernel
theorem dX8_table_43 : decode cX8_table 43 = .ok (.aload_n 0, 1) := by decide +kernel
theorem dX8_table_44 : decode cX8_table 44 = .ok (.getfield 19, 3) := by decide +kernel
theorem dX8_table_47 : decode cX8_table 47 = .ok (.getfield 195, 3) := by decide +kernel
theorem dX8_table_50 : decode cX8_table 50 = .ok (.iload_n 2, 1) := by decide +kernel
theorem dX8_table_51 : decode cX8_table 51 = .ok (.iaload, 1) := by decide +kernel
theorem dX8_table_52 : decode cX8_table 52 = .ok (.ireturn, 1) := by decide +kernel
theorem dX8_share_0 : decode cX8_share 0 = .ok (.iload_n 1, 1) := by decide +kernel
theorem dX8_share_1 : decode cX8_share 1 = .ok (.invokestatic 112, 3) := by decide +kernel
theorem dX8_share_4 : decode cX8_share 4 = .ok (.ifCond .eq 14, 3) := by decide +kernel
theorem dX8_share_7 : decode cX8_share 7 = .ok (.aload_n 0, 1) := by decide +kernel
theorem dX8_share_8 : decode cX8_share 8 = .ok (.getfield 28, 3) := by decide +kernel
theorem dX8_share_11 : decode cX8_share 11 = .ok (.iload_n 2, 1) := by decide +kernel
theorem dX8_share_12 : decode cX8_share 12 = .ok (.invokevirtual 106, 3) := by decide +kernel
theorem dX8_share_15 : decode cX8_share 15 = .ok (.ifCond .ne 5, 3) := by decide +kernel
theorem dX8_share_18 : decode cX8_share 18 = .ok (.iconst (-1), 1) := by decide +kernel
theorem dX8_share_19 : decode cX8_share 19 = .ok (.ireturn, 1) := by decide +kernel
theorem dX8_share_20 : decode cX8_share 20 = .ok (.aload_n 0, 1) := by decide +kernel
theorem dX8_share_21 : decode cX8_share 21 = .ok (.aload_n 0, 1) := by decide +kernel
theorem dX8_share_22 : decode cX8_share 22 = .ok (.getfield 19, 3) := by decide +kernel
theorem dX8_share_25 : decode cX8_share 25 = .ok (.getfield 195, 3) := by decide +kernel
theorem dX8_share_28 : decode cX8_share 28 = .ok (.aload_n 0, 1) := by decide +kernel
theorem dX8_share_29 : decode cX8_share 29 = .ok (.getfield 28, 3) := by decide +kernel
theorem dX8_share_32 : decode cX8_share 32 = .ok (.getfield 147, 3) := by decide +kernel
theorem dX8_share_35 : decode cX8_share 35 = .ok (.iload_n 1, 1) := by decide +kernel
theorem dX8_share_36 : decode cX8_share 36 = .ok (.aaload, 1) := by decide +kernel
theorem dX8_share_37 : decode cX8_share 37 = .ok (.invokevirtual 156, 3) := by decide +kernel
theorem dX8_share_40 : decode cX8_share 40 = .ok (.invokevirtual 160, 3) := by decide +kernel
theorem dX8_share_43 : decode cX8_share 43 = .ok (.aload_n 0, 1) := by decide +kernel
theorem dX8_share_44 : decode cX8_share 44 = .ok (.getfield 19, 3) := by decide +kernel
theorem dX8_share_47 : decode cX8_share 47 = .ok (.getfield 195, 3) := by decide +kernel
theorem dX8_share_50 : decode cX8_share 50 = .ok (.aload_n 0, 1) := by decide +kernel
theorem dX8_share_51 : decode cX8_share 51 = .ok (.getfield 28, 3) := by decide +kernel
theorem dX8_share_54 : decode cX8_share 54 = .ok (.getfield 82, 3) := by decide +kernel
theorem dX8_share_57 : decode cX8_share 57 = .ok (.iload_n 2, 1) := by decide +kernel
theorem dX8_share_58 : decode cX8_share 58 = .ok (.invokestatic 198, 3) := by decide +kernel
theorem dX8_share_61 : decode cX8_share 61 = .ok (.ireturn, 1) := by decide +kernel
theorem dX8_shareBits_0 : decode cX8_shareBits 0 = .ok (.aload_n 0, 1) := by decide +kernel
theorem dX8_shareBits_1 : decode cX8_shareBits 1 = .ok (.iload_n 1, 1) := by decide +kernel
theorem dX8_shareBits_2 : decode cX8_shareBits 2 = .ok (.iload_n 2, 1) := by decide +kernel
theorem dX8_shareBits_3 : decode cX8_shareBits 3 = .ok (.invokevirtual 202, 3) := by decide +kernel
theorem dX8_shareBits_6 : decode cX8_shareBits 6 = .ok (.istore_n 3, 1) := by decide +kernel
theorem dX8_shareBits_7 : decode cX8_shareBits 7 = .ok (.iload_n 3, 1) := by decide +kernel
theorem dX8_shareBits_8 : decode cX8_shareBits 8 = .ok (.iconst (-1), 1) := by decide +kernel
theorem dX8_shareBits_9 : decode cX8_shareBits 9 = .ok (.if_icmp .ne 7, 3) := by decide +kernel
theorem dX8_shareBits_12 : decode cX8_shareBits 12 = .ok (.iconst (-1), 1) := by decide +kernel
theorem dX8_shareBits_13 : decode cX8_shareBits 13 = .ok (.goto 17, 3) := by decide +kernel
theorem dX8_shareBits_16 : decode cX8_shareBits 16 = .ok (.iload_n 3, 1) := by decide +kernel
theorem dX8_shareBits_17 : decode cX8_shareBits 17 = .ok (.i2f, 1) := by decide +kernel
theorem dX8_shareBits_18 : decode cX8_shareBits 18 = .ok (.aload_n 0, 1) := by decide +kernel
theorem dX8_shareBits_19 : decode cX8_shareBits 19 = .ok (.getfield 28, 3) := by decide +kernel
theorem dX8_shareBits_22 : decode cX8_shareBits 22 = .ok (.getfield 82, 3) := by decide +kernel
theorem dX8_shareBits_25 : decode cX8_shareBits 25 = .ok (.i2f, 1) := by decide +kernel
theorem dX8_shareBits_26 : decode cX8_shareBits 26 = .ok (.fdiv, 1) := by decide +kernel
theorem dX8_shareBits_27 : decode cX8_shareBits 27 = .ok (.invokestatic 205, 3) := by decide +kernel
theorem dX8_shareBits_30 : decode cX8_shareBits 30 = .ok (.ireturn, 1) := by decide +kernel
theorem dX8_uneven_0 : decode cX8_uneven 0 = .ok (.iload_n 1, 1) := by decide +kernel
theorem dX8_uneven_1 : decode cX8_uneven 1 = .ok (.invokestatic 112, 3) := by decide +kernel
theorem dX8_uneven_4 : decode cX8_uneven 4 = .ok (.ifCond .eq 18, 3) := by decide +kernel
theorem dX8_uneven_7 : decode cX8_uneven 7 = .ok (.aload_n 0, 1) := by decide +kernel
theorem dX8_uneven_8 : decode cX8_uneven 8 = .ok (.getfield 28, 3) := by decide +kernel
theorem dX8_uneven_11 : decode cX8_uneven 11 = .ok (.getfield 147, 3) := by decide +kernel
theorem dX8_uneven_14 : decode cX8_uneven 14 = .ok (.iload_n 1, 1) := by decide +kernel
theorem dX8_uneven_15 : decode cX8_uneven 15 = .ok (.aaload, 1) := by decide +kernel
theorem dX8_uneven_16 : decode cX8_uneven 16 = .ok (.invokevirtual 156, 3) := by decide +kernel
theorem dX8_uneven_19 : decode cX8_uneven 19 = .ok (.ifCond .ne 5, 3) := by decide +kernel
theorem dX8_uneven_22 : decode cX8_uneven 22 = .ok (.iconst (-1), 1) := by decide +kernel
theorem dX8_uneven_23 : decode cX8_uneven 23 = .ok (.ireturn, 1) := by decide +kernel
theorem dX8_uneven_24 : decode cX8_uneven 24 = .ok (.aload_n 0, 1) := by decide +kernel
theorem dX8_uneven_25 : decode cX8_uneven 25 = .ok (.aload_n 0, 1) := by decide +kernel
theorem dX8_uneven_26 : decode cX8_uneven 26 = .ok (.getfield 28, 3) := by decide +kernel
theorem dX8_uneven_29 : decode cX8_uneven 29 = .ok (.getfield 147, 3) := by decide +kernel
theorem dX8_uneven_32 : decode cX8_uneven 32 = .ok (.iload_n 1, 1) := by decide +kernel
theorem dX8_uneven_33 : decode cX8_uneven 33 = .ok (.aaload, 1) := by decide +kernel
theorem dX8_uneven_34 : decode cX8_uneven 34 = .ok (.invokevirtual 156, 3) := by decide +kernel
theorem dX8_uneven_37 : decode cX8_uneven 37 = .ok (.aload_n 0, 1) := by decide +kernel
theorem dX8_uneven_38 : decode cX8_uneven 38 = .ok (.getfield 28, 3) := by decide +kernel
theorem dX8_uneven_41 : decode cX8_uneven 41 = .ok (.getfield 82, 3) := by decide +kernel
theorem dX8_uneven_44 : decode cX8_uneven 44 = .ok (.invokevirtual 209, 3) := by decide +kernel
theorem dX8_uneven_47 : decode cX8_uneven 47 = .ok (.ireturn, 1) := by decide +kernel
theorem dX8_evenest_0 : decode cX8_evenest 0 = .ok (.iload_n 1, 1) := by decide +kernel
theorem dX8_evenest_1 : decode cX8_evenest 1 = .ok (.invokestatic 112, 3) := by decide +kernel
theorem dX8_evenest_4 : decode cX8_evenest 4 = .ok (.ifCond .eq 18, 3) := by decide +kernel
theorem dX8_evenest_7 : decode cX8_evenest 7 = .ok (.aload_n 0, 1) := by decide +kernel
theorem dX8_evenest_8 : decode cX8_evenest 8 = .ok (.getfield 28, 3) := by decide +kernel
theorem dX8_evenest_11 : decode cX8_evenest 11 = .ok (.getfield 147, 3) := by decide +kernel
theorem dX8_evenest_14 : decode cX8_evenest 14 = .ok (.iload_n 1, 1) := by decide +kernel
theorem dX8_evenest_15 : decode cX8_evenest 15 = .ok (.aaload, 1) := by decide +kernel
theorem dX8_evenest_16 : decode cX8_evenest 16 = .ok (.invokevirtual 156, 3) := by decide +kernel
theorem dX8_evenest_19 : decode cX8_evenest 19 = .ok (.ifCond .ne 5, 3) := by decide +kernel
theorem dX8_evenest_22 : decode cX8_evenest 22 = .ok (.iconst (-1), 1) := by decide +kernel
theorem dX8_evenest_23 : decode cX8_evenest 23 = .ok (.ireturn, 1) := by decide +kernel
theorem dX8_evenest_24 : decode cX8_evenest 24 = .ok (.aload_n 0, 1) := by decide +kernel
theorem dX8_evenest_25 : decode cX8_evenest 25 = .ok (.getfield 28, 3) := by decide +kernel
theorem dX8_evenest_28 : decode cX8_evenest 28 = .ok (.getfield 147, 3) := by decide +kernel
theorem dX8_evenest_31 : decode cX8_evenest 31 = .ok (.iload_n 1, 1) := by decide +kernel
theorem dX8_evenest_32 : decode cX8_evenest 32 = .ok (.aaload, 1) := by decide +kernel
theorem dX8_evenest_33 : decode cX8_evenest 33 = .ok (.invokevirtual 156, 3) := by decide +kernel
theorem dX8_evenest_36 : decode cX8_evenest 36 = .ok (.istore_n 2, 1) := by decide +kernel
theorem dX8_evenest_37 : decode cX8_evenest 37 = .ok (.getstatic 212, 3) := by decide +kernel
theorem dX8_evenest_40 : decode cX8_evenest 40 = .ok (.iconst 0, 1) := by decide +kernel
theorem dX8_evenest_41 : decode cX8_evenest 41 = .ok (.iaload, 1) := by decide +kernel
theorem dX8_evenest_42 : decode cX8_evenest 42 = .ok (.istore_n 3, 1) := by decide +kernel
theorem dX8_evenest_43 : decode cX8_evenest 43 = .ok (.aload_n 0, 1) := by decide +kernel
theorem dX8_evenest_44 : decode cX8_evenest 44 = .ok (.iload_n 2, 1) := by decide +kernel
theorem dX8_evenest_45 : decode cX8_evenest 45 = .ok (.iload_n 3, 1) := by decide +kernel
theorem dX8_evenest_46 : decode cX8_evenest 46 = .ok (.invokevirtual 209, 3) := by decide +kernel
theorem dX8_evenest_49 : decode cX8_evenest 49 = .ok (.istore 4, 2) := by decide +kernel
theorem dX8_evenest_51 : decode cX8_evenest 51 = .ok (.iconst 1, 1) := by decide +kernel
theorem dX8_evenest_52 : decode cX8_evenest 52 = .ok (.istore 5, 2) := by decide +kernel
theorem dX8_evenest_54 : decode cX8_evenest 54 = .ok (.iload 5, 2) := by decide +kernel
theorem dX8_evenest_56 : decode cX8_evenest 56 = .ok (.getstatic 212, 3) := by decide +kernel
theorem dX8_evenest_59 : decode cX8_evenest 59 = .ok (.arraylength, 1) := by decide +kernel
theorem dX8_evenest_60 : decode cX8_evenest 60 = .ok (.if_icmp .ge 49, 3) := by decide +kernel
theorem dX8_evenest_63 : decode cX8_evenest 63 = .ok (.aload_n 0, 1) := by decide +kernel
theorem dX8_evenest_64 : decode cX8_evenest 64 = .ok (.iload_n 2, 1) := by decide +kernel
theorem dX8_evenest_65 : decode cX8_evenest 65 = .ok (.getstatic 212, 3) := by decide +kernel
theorem dX8_evenest_68 : decode cX8_evenest 68 = .ok (.iload 5, 2) := by decide +kernel
theorem dX8_evenest_70 : decode cX8_evenest 70 = .ok (.iaload, 1) := by decide +kernel
theorem dX8_evenest_71 : decode cX8_evenest 71 = .ok (.invokevirtual 209, 3) := by decide +kernel
theorem dX8_evenest_74 : decode cX8_evenest 74 = .ok (.istore 6, 2) := by decide +kernel
theorem dX8_evenest_76 : decode cX8_evenest 76 = .ok (.iload 6, 2) := by decide +kernel
theorem dX8_evenest_78 : decode cX8_evenest 78 = .ok (.iload_n 3, 1) := by decide +kernel
theorem dX8_evenest_79 : decode cX8_evenest 79 = .ok (.imul, 1) := by decide +kernel
theorem dX8_evenest_80 : decode cX8_evenest 80 = .ok (.iload 4, 2) := by decide +kernel
theorem dX8_evenest_82 : decode cX8_evenest 82 = .ok (.getstatic 212, 3) := by decide +kernel
theorem dX8_evenest_85 : decode cX8_evenest 85 = .ok (.iload 5, 2) := by decide +kernel
theorem dX8_evenest_87 : decode cX8_evenest 87 = .ok (.iaload, 1) := by decide +kernel
theorem dX8_evenest_88 : decode cX8_evenest 88 = .ok (.imul, 1) := by decide +kernel
theorem dX8_evenest_89 : decode cX8_evenest 89 = .ok (.if_icmp .ge 14, 3) := by decide +kernel
theorem dX8_evenest_92 : decode cX8_evenest 92 = .ok (.getstatic 212, 3) := by decide +kernel
theorem dX8_evenest_95 : decode cX8_evenest 95 = .ok (.iload 5, 2) := by decide +kernel
theorem dX8_evenest_97 : decode cX8_evenest 97 = .ok (.iaload, 1) := by decide +kernel
theorem dX8_evenest_98 : decode cX8_evenest 98 = .ok (.istore_n 3, 1) := by decide +kernel
theorem dX8_evenest_99 : decode cX8_evenest 99 = .ok (.iload 6, 2) := by decide +kernel
theorem dX8_evenest_101 : decode cX8_evenest 101 = .ok (.istore 4, 2) := by decide +kernel
theorem dX8_evenest_103 : decode cX8_evenest 103 = .ok (.iinc 5 1, 3) := by decide +kernel
theorem dX8_evenest_106 : decode cX8_evenest 106 = .ok (.goto (-52), 3) := by decide +kernel
theorem dX8_evenest_109 : decode cX8_evenest 109 = .ok (.iload_n 3, 1) := by decide +kernel
theorem dX8_evenest_110 : decode cX8_evenest 110 = .ok (.ireturn, 1) := by decide +kernel
theorem dX8_changed_0 : decode cX8_changed 0 = .ok (.iload_n 1, 1) := by decide +kernel
theorem dX8_changed_1 : decode cX8_changed 1 = .ok (.invokestatic 112, 3) := by decide +kernel
theorem dX8_changed_4 : decode cX8_changed 4 = .ok (.ifCond .eq 18, 3) := by decide +kernel
theorem dX8_changed_7 : decode cX8_changed 7 = .ok (.aload_n 0, 1) := by decide +kernel
theorem dX8_changed_8 : decode cX8_changed 8 = .ok (.getfield 28, 3) := by decide +kernel
theorem dX8_changed_11 : decode cX8_changed 11 = .ok (.getfield 147, 3) := by decide +kernel
theorem dX8_changed_14 : decode cX8_changed 14 = .ok (.iload_n 1, 1) := by decide +kernel
theorem dX8_changed_15 : decode cX8_changed 15 = .ok (.aaload, 1) := by decide +kernel
theorem dX8_changed_16 : decode cX8_changed 16 = .ok (.getfield 164, 3) := by decide +kernel
theorem dX8_changed_19 : decode cX8_changed 19 = .ok (.ifCond .ne 5, 3) := by decide +kernel
theorem dX8_changed_22 : decode cX8_changed 22 = .ok (.iconst (-1), 1) := by decide +kernel
theorem dX8_changed_23 : decode cX8_changed 23 = .ok (.ireturn, 1) := by decide +kernel
theorem dX8_changed_24 : decode cX8_changed 24 = .ok (.aload_n 0, 1) := by decide +kernel
theorem dX8_changed_25 : decode cX8_changed 25 = .ok (.getfield 28, 3) := by decide +kernel
theorem dX8_changed_28 : decode cX8_changed 28 = .ok (.getfield 147, 3) := by decide +kernel
theorem dX8_changed_31 : decode cX8_changed 31 = .ok (.iload_n 1, 1) := by decide +kernel
theorem dX8_changed_32 : decode cX8_changed 32 = .ok (.aaload, 1) := by decide +kernel
theorem dX8_changed_33 : decode cX8_changed 33 = .ok (.astore_n 3, 1) := by decide +kernel
theorem dX8_changed_34 : decode cX8_changed 34 = .ok (.iload_n 2, 1) := by decide +kernel
theorem dX8_changed_35 : decode cX8_changed 35 = .ok (.bipush 10, 2) := by decide +kernel
theorem dX8_changed_37 : decode cX8_changed 37 = .ok (.if_icmp .lt 27, 3) := by decide +kernel
theorem dX8_changed_40 : decode cX8_changed 40 = .ok (.aload_n 0, 1) := by decide +kernel
theorem dX8_changed_41 : decode cX8_changed 41 = .ok (.getfield 28, 3) := by decide +kernel
theorem dX8_changed_44 : decode cX8_changed 44 = .ok (.iload_n 2, 1) := by decide +kernel
theorem dX8_changed_45 : decode cX8_changed 45 = .ok (.bipush 10, 2) := by decide +kernel
theorem dX8_changed_47 : decode cX8_changed 47 = .ok (.isub, 1) := by decide +kernel
theorem dX8_changed_48 : decode cX8_changed 48 = .ok (.invokevirtual 189, 3) := by decide +kernel
theorem dX8_changed_51 : decode cX8_changed 51 = .ok (.ifCond .eq 13, 3) := by decide +kernel
theorem dX8_changed_54 : decode cX8_changed 54 = .ok (.aload_n 3, 1) := by decide +kernel
theorem dX8_changed_55 : decode cX8_changed 55 = .ok (.getfield 151, 3) := by decide +kernel
theorem dX8_changed_58 : decode cX8_changed 58 = .ok (.iload_n 2, 1) := by decide +kernel
theorem dX8_changed_59 : decode cX8_changed 59 = .ok (.bipush 10, 2) := by decide +kernel
theorem dX8_changed_61 : decode cX8_changed 61 = .ok (.isub, 1) := by decide +kernel
theorem dX8_changed_62 : decode cX8_changed 62 = .ok (.iaload, 1) := by decide +kernel
theorem dX8_changed_63 : decode cX8_changed 63 = .ok (.ireturn, 1) := by decide +kernel
theorem dX8_changed_64 : decode cX8_changed 64 = .ok (.iload_n 2, 1) := by decide +kernel
theorem dX8_changed_65 : decode cX8_changed 65 = .ok (.ifCond .eq 10, 3) := by decide +kernel
theorem dX8_changed_68 : decode cX8_changed 68 = .ok (.iload_n 2, 1) := by decide +kernel
theorem dX8_changed_69 : decode cX8_changed 69 = .ok (.iconst 1, 1) := by decide +kernel
theorem dX8_changed_70 : decode cX8_changed 70 = .ok (.if_icmp .eq 5, 3) := by decide +kernel
theorem dX8_changed_73 : decode cX8_changed 73 = .ok (.iconst (-1), 1) := by decide +kernel
theorem dX8_changed_74 : decode cX8_changed 74 = .ok (.ireturn, 1) := by decide +kernel
theorem dX8_changed_75 : decode cX8_changed 75 = .ok (.aload_n 0, 1) := by decide +kernel
theorem dX8_changed_76 : decode cX8_changed 76 = .ok (.aload_n 0, 1) := by decide +kernel
theorem dX8_changed_77 : decode cX8_changed 77 = .ok (.getfield 19, 3) := by decide +kernel
theorem dX8_changed_80 : decode cX8_changed 80 = .ok (.getfield 195, 3) := by decide +kernel
theorem dX8_changed_83 : decode cX8_changed 83 = .ok (.aload_n 3, 1) := by decide +kernel
theorem dX8_changed_84 : decode cX8_changed 84 = .ok (.invokevirtual 156, 3) := by decide +kernel
theorem dX8_changed_87 : decode cX8_changed 87 = .ok (.invokevirtual 160, 3) := by decide +kernel
theorem dX8_changed_90 : decode cX8_changed 90 = .ok (.aload_n 0, 1) := by decide +kernel
theorem dX8_changed_91 : decode cX8_changed 91 = .ok (.aload_n 3, 1) := by decide +kernel
theorem dX8_changed_92 : decode cX8_changed 92 = .ok (.getfield 151, 3) := by decide +kernel
theorem dX8_changed_95 : decode cX8_changed 95 = .ok (.aload_n 0, 1) := by decide +kernel
theorem dX8_changed_96 : decode cX8_changed 96 = .ok (.getfield 19, 3) := by decide +kernel
theorem dX8_changed_99 : decode cX8_changed 99 = .ok (.getfield 195, 3) := by decide +kernel
theorem dX8_changed_102 : decode cX8_changed 102 = .ok (.aload_n 3, 1) := by decide +kernel
theorem dX8_changed_103 : decode cX8_changed 103 = .ok (.invokevirtual 156, 3) := by decide +kernel
theorem dX8_changed_106 : decode cX8_changed 106 = .ok (.iload_n 2, 1) := by decide +kernel
theorem dX8_changed_107 : decode cX8_changed 107 = .ok (.iconst 1, 1) := by decide +kernel
end
section
theorem dX8_changed_108 : decode cX8_changed 108 = .ok (.if_icmp .ne 7, 3) := by decide +kernel
theorem dX8_changed_111 : decode cX8_changed 111 = .ok (.iconst 1, 1) := by decide +kernel
theorem dX8_changed_112 : decode cX8_changed 112 = .ok (.goto 4, 3) := by decide +kernel
theorem dX8_changed_115 : decode cX8_changed 115 = .ok (.iconst 0, 1) := by decide +kernel
theorem dX8_changed_116 : decode cX8_changed 116 = .ok (.invokevirtual 215, 3) := by decide +kernel
theorem dX8_changed_119 : decode cX8_changed 119 = .ok (.ireturn, 1) := by decide +kernel
theorem dX8_alike_0 : decode cX8_alike 0 = .ok (.iload_n 1, 1) := by decide +kernel
theorem dX8_alike_1 : decode cX8_alike 1 = .ok (.invokestatic 112, 3) := by decide +kernel
theorem dX8_alike_4 : decode cX8_alike 4 = .ok (.ifCond .eq 10, 3) := by decide +kernel
theorem dX8_alike_7 : decode cX8_alike 7 = .ok (.iload_n 2, 1) := by decide +kernel
theorem dX8_alike_8 : decode cX8_alike 8 = .ok (.invokestatic 112, 3) := by decide +kernel
theorem dX8_alike_11 : decode cX8_alike 11 = .ok (.ifCond .ne 5, 3) := by decide +kernel
theorem dX8_alike_14 : decode cX8_alike 14 = .ok (.iconst (-1), 1) := by decide +kernel
theorem dX8_alike_15 : decode cX8_alike 15 = .ok (.ireturn, 1) := by decide +kernel
theorem dX8_alike_16 : decode cX8_alike 16 = .ok (.aload_n 0, 1) := by decide +kernel
theorem dX8_alike_17 : decode cX8_alike 17 = .ok (.aload_n 0, 1) := by decide +kernel
theorem dX8_alike_18 : decode cX8_alike 18 = .ok (.getfield 19, 3) := by decide +kernel
theorem dX8_alike_21 : decode cX8_alike 21 = .ok (.getfield 195, 3) := by decide +kernel
theorem dX8_alike_24 : decode cX8_alike 24 = .ok (.aload_n 0, 1) := by decide +kernel
theorem dX8_alike_25 : decode cX8_alike 25 = .ok (.getfield 28, 3) := by decide +kernel
theorem dX8_alike_28 : decode cX8_alike 28 = .ok (.getfield 147, 3) := by decide +kernel
theorem dX8_alike_31 : decode cX8_alike 31 = .ok (.iload_n 1, 1) := by decide +kernel
theorem dX8_alike_32 : decode cX8_alike 32 = .ok (.aaload, 1) := by decide +kernel
theorem dX8_alike_33 : decode cX8_alike 33 = .ok (.invokevirtual 156, 3) := by decide +kernel
theorem dX8_alike_36 : decode cX8_alike 36 = .ok (.invokevirtual 160, 3) := by decide +kernel
theorem dX8_alike_39 : decode cX8_alike 39 = .ok (.aload_n 0, 1) := by decide +kernel
theorem dX8_alike_40 : decode cX8_alike 40 = .ok (.aload_n 0, 1) := by decide +kernel
theorem dX8_alike_41 : decode cX8_alike 41 = .ok (.getfield 19, 3) := by decide +kernel
theorem dX8_alike_44 : decode cX8_alike 44 = .ok (.getfield 219, 3) := by decide +kernel
theorem dX8_alike_47 : decode cX8_alike 47 = .ok (.aload_n 0, 1) := by decide +kernel
theorem dX8_alike_48 : decode cX8_alike 48 = .ok (.getfield 28, 3) := by decide +kernel
theorem dX8_alike_51 : decode cX8_alike 51 = .ok (.getfield 147, 3) := by decide +kernel
theorem dX8_alike_54 : decode cX8_alike 54 = .ok (.iload_n 2, 1) := by decide +kernel
theorem dX8_alike_55 : decode cX8_alike 55 = .ok (.aaload, 1) := by decide +kernel
theorem dX8_alike_56 : decode cX8_alike 56 = .ok (.invokevirtual 156, 3) := by decide +kernel
theorem dX8_alike_59 : decode cX8_alike 59 = .ok (.invokevirtual 160, 3) := by decide +kernel
theorem dX8_alike_62 : decode cX8_alike 62 = .ok (.aload_n 0, 1) := by decide +kernel
theorem dX8_alike_63 : decode cX8_alike 63 = .ok (.getfield 28, 3) := by decide +kernel
theorem dX8_alike_66 : decode cX8_alike 66 = .ok (.getfield 82, 3) := by decide +kernel
theorem dX8_alike_69 : decode cX8_alike 69 = .ok (.aload_n 0, 1) := by decide +kernel
theorem dX8_alike_70 : decode cX8_alike 70 = .ok (.aload_n 0, 1) := by decide +kernel
theorem dX8_alike_71 : decode cX8_alike 71 = .ok (.getfield 19, 3) := by decide +kernel
theorem dX8_alike_74 : decode cX8_alike 74 = .ok (.getfield 195, 3) := by decide +kernel
theorem dX8_alike_77 : decode cX8_alike 77 = .ok (.aload_n 0, 1) := by decide +kernel
theorem dX8_alike_78 : decode cX8_alike 78 = .ok (.getfield 19, 3) := by decide +kernel
theorem dX8_alike_81 : decode cX8_alike 81 = .ok (.getfield 219, 3) := by decide +kernel
theorem dX8_alike_84 : decode cX8_alike 84 = .ok (.iconst 0, 1) := by decide +kernel
theorem dX8_alike_85 : decode cX8_alike 85 = .ok (.iconst 0, 1) := by decide +kernel
theorem dX8_alike_86 : decode cX8_alike 86 = .ok (.invokevirtual 215, 3) := by decide +kernel
theorem dX8_alike_89 : decode cX8_alike 89 = .ok (.isub, 1) := by decide +kernel
theorem dX8_alike_90 : decode cX8_alike 90 = .ok (.ireturn, 1) := by decide +kernel
theorem dX8_were_0 : decode cX8_were 0 = .ok (.iload_n 1, 1) := by decide +kernel
theorem dX8_were_1 : decode cX8_were 1 = .ok (.invokestatic 112, 3) := by decide +kernel
theorem dX8_were_4 : decode cX8_were 4 = .ok (.ifCond .eq 21, 3) := by decide +kernel
theorem dX8_were_7 : decode cX8_were 7 = .ok (.aload_n 0, 1) := by decide +kernel
theorem dX8_were_8 : decode cX8_were 8 = .ok (.getfield 28, 3) := by decide +kernel
theorem dX8_were_11 : decode cX8_were 11 = .ok (.iload_n 2, 1) := by decide +kernel
theorem dX8_were_12 : decode cX8_were 12 = .ok (.invokevirtual 106, 3) := by decide +kernel
theorem dX8_were_15 : decode cX8_were 15 = .ok (.ifCond .eq 10, 3) := by decide +kernel
theorem dX8_were_18 : decode cX8_were 18 = .ok (.iload_n 3, 1) := by decide +kernel
theorem dX8_were_19 : decode cX8_were 19 = .ok (.invokestatic 115, 3) := by decide +kernel
theorem dX8_were_22 : decode cX8_were 22 = .ok (.ifCond .ne 5, 3) := by decide +kernel
theorem dX8_were_25 : decode cX8_were 25 = .ok (.iconst (-1), 1) := by decide +kernel
theorem dX8_were_26 : decode cX8_were 26 = .ok (.ireturn, 1) := by decide +kernel
theorem dX8_were_27 : decode cX8_were 27 = .ok (.aload_n 0, 1) := by decide +kernel
theorem dX8_were_28 : decode cX8_were 28 = .ok (.getfield 28, 3) := by decide +kernel
theorem dX8_were_31 : decode cX8_were 31 = .ok (.getfield 147, 3) := by decide +kernel
theorem dX8_were_34 : decode cX8_were 34 = .ok (.iload_n 1, 1) := by decide +kernel
theorem dX8_were_35 : decode cX8_were 35 = .ok (.aaload, 1) := by decide +kernel
theorem dX8_were_36 : decode cX8_were 36 = .ok (.invokevirtual 156, 3) := by decide +kernel
theorem dX8_were_39 : decode cX8_were 39 = .ok (.istore 5, 2) := by decide +kernel
theorem dX8_were_41 : decode cX8_were 41 = .ok (.iload_n 3, 1) := by decide +kernel
theorem dX8_were_42 : decode cX8_were 42 = .ok (.iconst 1, 1) := by decide +kernel
theorem dX8_were_43 : decode cX8_were 43 = .ok (.if_icmp .ne 12, 3) := by decide +kernel
theorem dX8_were_46 : decode cX8_were 46 = .ok (.iload 5, 2) := by decide +kernel
theorem dX8_were_48 : decode cX8_were 48 = .ok (.iconst 1, 1) := by decide +kernel
theorem dX8_were_49 : decode cX8_were 49 = .ok (.iload_n 2, 1) := by decide +kernel
theorem dX8_were_50 : decode cX8_were 50 = .ok (.ishl, 1) := by decide +kernel
theorem dX8_were_51 : decode cX8_were 51 = .ok (.ior, 1) := by decide +kernel
theorem dX8_were_52 : decode cX8_were 52 = .ok (.goto 11, 3) := by decide +kernel
theorem dX8_were_55 : decode cX8_were 55 = .ok (.iload 5, 2) := by decide +kernel
theorem dX8_were_57 : decode cX8_were 57 = .ok (.iconst 1, 1) := by decide +kernel
theorem dX8_were_58 : decode cX8_were 58 = .ok (.iload_n 2, 1) := by decide +kernel
theorem dX8_were_59 : decode cX8_were 59 = .ok (.ishl, 1) := by decide +kernel
theorem dX8_were_60 : decode cX8_were 60 = .ok (.iconst (-1), 1) := by decide +kernel
theorem dX8_were_61 : decode cX8_were 61 = .ok (.ixor, 1) := by decide +kernel
theorem dX8_were_62 : decode cX8_were 62 = .ok (.iand, 1) := by decide +kernel
theorem dX8_were_63 : decode cX8_were 63 = .ok (.istore 6, 2) := by decide +kernel
theorem dX8_were_65 : decode cX8_were 65 = .ok (.aload_n 0, 1) := by decide +kernel
theorem dX8_were_66 : decode cX8_were 66 = .ok (.aload_n 0, 1) := by decide +kernel
theorem dX8_were_67 : decode cX8_were 67 = .ok (.getfield 19, 3) := by decide +kernel
theorem dX8_were_70 : decode cX8_were 70 = .ok (.getfield 195, 3) := by decide +kernel
theorem dX8_were_73 : decode cX8_were 73 = .ok (.iload 5, 2) := by decide +kernel
theorem dX8_were_75 : decode cX8_were 75 = .ok (.invokevirtual 160, 3) := by decide +kernel
theorem dX8_were_78 : decode cX8_were 78 = .ok (.aload_n 0, 1) := by decide +kernel
theorem dX8_were_79 : decode cX8_were 79 = .ok (.aload_n 0, 1) := by decide +kernel
theorem dX8_were_80 : decode cX8_were 80 = .ok (.getfield 19, 3) := by decide +kernel
theorem dX8_were_83 : decode cX8_were 83 = .ok (.getfield 219, 3) := by decide +kernel
theorem dX8_were_86 : decode cX8_were 86 = .ok (.iload 6, 2) := by decide +kernel
theorem dX8_were_88 : decode cX8_were 88 = .ok (.invokevirtual 160, 3) := by decide +kernel
theorem dX8_were_91 : decode cX8_were 91 = .ok (.aload_n 0, 1) := by decide +kernel
theorem dX8_were_92 : decode cX8_were 92 = .ok (.aload_n 0, 1) := by decide +kernel
theorem dX8_were_93 : decode cX8_were 93 = .ok (.getfield 19, 3) := by decide +kernel
theorem dX8_were_96 : decode cX8_were 96 = .ok (.getfield 195, 3) := by decide +kernel
theorem dX8_were_99 : decode cX8_were 99 = .ok (.aload_n 0, 1) := by decide +kernel
theorem dX8_were_100 : decode cX8_were 100 = .ok (.getfield 19, 3) := by decide +kernel
theorem dX8_were_103 : decode cX8_were 103 = .ok (.getfield 219, 3) := by decide +kernel
theorem dX8_were_106 : decode cX8_were 106 = .ok (.iload 6, 2) := by decide +kernel
theorem dX8_were_108 : decode cX8_were 108 = .ok (.iload 4, 2) := by decide +kernel
theorem dX8_were_110 : decode cX8_were 110 = .ok (.invokevirtual 215, 3) := by decide +kernel
theorem dX8_were_113 : decode cX8_were 113 = .ok (.ireturn, 1) := by decide +kernel
theorem dX8_roughest_0 : decode cX8_roughest 0 = .ok (.iload_n 1, 1) := by decide +kernel
theorem dX8_roughest_1 : decode cX8_roughest 1 = .ok (.invokestatic 112, 3) := by decide +kernel
theorem dX8_roughest_4 : decode cX8_roughest 4 = .ok (.ifCond .ne 5, 3) := by decide +kernel
theorem dX8_roughest_7 : decode cX8_roughest 7 = .ok (.iconst (-1), 1) := by decide +kernel
theorem dX8_roughest_8 : decode cX8_roughest 8 = .ok (.ireturn, 1) := by decide +kernel
theorem dX8_roughest_9 : decode cX8_roughest 9 = .ok (.aload_n 0, 1) := by decide +kernel
theorem dX8_roughest_10 : decode cX8_roughest 10 = .ok (.getfield 28, 3) := by decide +kernel
theorem dX8_roughest_13 : decode cX8_roughest 13 = .ok (.getfield 147, 3) := by decide +kernel
theorem dX8_roughest_16 : decode cX8_roughest 16 = .ok (.iload_n 1, 1) := by decide +kernel
theorem dX8_roughest_17 : decode cX8_roughest 17 = .ok (.aaload, 1) := by decide +kernel
theorem dX8_roughest_18 : decode cX8_roughest 18 = .ok (.invokevirtual 156, 3) := by decide +kernel
theorem dX8_roughest_21 : decode cX8_roughest 21 = .ok (.istore_n 2, 1) := by decide +kernel
theorem dX8_roughest_22 : decode cX8_roughest 22 = .ok (.iconst (-1), 1) := by decide +kernel
theorem dX8_roughest_23 : decode cX8_roughest 23 = .ok (.istore_n 3, 1) := by decide +kernel
theorem dX8_roughest_24 : decode cX8_roughest 24 = .ok (.iconst (-1), 1) := by decide +kernel
theorem dX8_roughest_25 : decode cX8_roughest 25 = .ok (.istore 4, 2) := by decide +kernel
theorem dX8_roughest_27 : decode cX8_roughest 27 = .ok (.aload_n 0, 1) := by decide +kernel
theorem dX8_roughest_28 : decode cX8_roughest 28 = .ok (.aload_n 0, 1) := by decide +kernel
theorem dX8_roughest_29 : decode cX8_roughest 29 = .ok (.getfield 19, 3) := by decide +kernel
theorem dX8_roughest_32 : decode cX8_roughest 32 = .ok (.getfield 195, 3) := by decide +kernel
theorem dX8_roughest_35 : decode cX8_roughest 35 = .ok (.iload_n 2, 1) := by decide +kernel
theorem dX8_roughest_36 : decode cX8_roughest 36 = .ok (.invokevirtual 160, 3) := by decide +kernel
theorem dX8_roughest_39 : decode cX8_roughest 39 = .ok (.iconst 0, 1) := by decide +kernel
theorem dX8_roughest_40 : decode cX8_roughest 40 = .ok (.istore 5, 2) := by decide +kernel
theorem dX8_roughest_42 : decode cX8_roughest 42 = .ok (.iload 5, 2) := by decide +kernel
theorem dX8_roughest_44 : decode cX8_roughest 44 = .ok (.aload_n 0, 1) := by decide +kernel
theorem dX8_roughest_45 : decode cX8_roughest 45 = .ok (.getfield 28, 3) := by decide +kernel
theorem dX8_roughest_48 : decode cX8_roughest 48 = .ok (.getfield 99, 3) := by decide +kernel
theorem dX8_roughest_51 : decode cX8_roughest 51 = .ok (.if_icmp .ge 78, 3) := by decide +kernel
theorem dX8_roughest_54 : decode cX8_roughest 54 = .ok (.iload_n 2, 1) := by decide +kernel
theorem dX8_roughest_55 : decode cX8_roughest 55 = .ok (.iload 5, 2) := by decide +kernel
theorem dX8_roughest_57 : decode cX8_roughest 57 = .ok (.invokestatic 222, 3) := by decide +kernel
theorem dX8_roughest_60 : decode cX8_roughest 60 = .ok (.ifCond .eq 63, 3) := by decide +kernel
theorem dX8_roughest_63 : decode cX8_roughest 63 = .ok (.iload_n 2, 1) := by decide +kernel
theorem dX8_roughest_64 : decode cX8_roughest 64 = .ok (.iconst 1, 1) := by decide +kernel
theorem dX8_roughest_65 : decode cX8_roughest 65 = .ok (.iload 5, 2) := by decide +kernel
theorem dX8_roughest_67 : decode cX8_roughest 67 = .ok (.ishl, 1) := by decide +kernel
theorem dX8_roughest_68 : decode cX8_roughest 68 = .ok (.iconst (-1), 1) := by decide +kernel
theorem dX8_roughest_69 : decode cX8_roughest 69 = .ok (.ixor, 1) := by decide +kernel
theorem dX8_roughest_70 : decode cX8_roughest 70 = .ok (.iand, 1) := by decide +kernel
theorem dX8_roughest_71 : decode cX8_roughest 71 = .ok (.istore 6, 2) := by decide +kernel
theorem dX8_roughest_73 : decode cX8_roughest 73 = .ok (.aload_n 0, 1) := by decide +kernel
theorem dX8_roughest_74 : decode cX8_roughest 74 = .ok (.aload_n 0, 1) := by decide +kernel
theorem dX8_roughest_75 : decode cX8_roughest 75 = .ok (.getfield 19, 3) := by decide +kernel
theorem dX8_roughest_78 : decode cX8_roughest 78 = .ok (.getfield 219, 3) := by decide +kernel
theorem dX8_roughest_81 : decode cX8_roughest 81 = .ok (.iload 6, 2) := by decide +kernel
theorem dX8_roughest_83 : decode cX8_roughest 83 = .ok (.invokevirtual 160, 3) := by decide +kernel
theorem dX8_roughest_86 : decode cX8_roughest 86 = .ok (.aload_n 0, 1) := by decide +kernel
theorem dX8_roughest_87 : decode cX8_roughest 87 = .ok (.aload_n 0, 1) := by decide +kernel
theorem dX8_roughest_88 : decode cX8_roughest 88 = .ok (.getfield 19, 3) := by decide +kernel
theorem dX8_roughest_91 : decode cX8_roughest 91 = .ok (.getfield 195, 3) := by decide +kernel
theorem dX8_roughest_94 : decode cX8_roughest 94 = .ok (.aload_n 0, 1) := by decide +kernel
theorem dX8_roughest_95 : decode cX8_roughest 95 = .ok (.getfield 19, 3) := by decide +kernel
theorem dX8_roughest_98 : decode cX8_roughest 98 = .ok (.getfield 219, 3) := by decide +kernel
theorem dX8_roughest_101 : decode cX8_roughest 101 = .ok (.iload 6, 2) := by decide +kernel
theorem dX8_roughest_103 : decode cX8_roughest 103 = .ok (.iconst 1, 1) := by decide +kernel
theorem dX8_roughest_104 : decode cX8_roughest 104 = .ok (.invokevirtual 215, 3) := by decide +kernel
theorem dX8_roughest_107 : decode cX8_roughest 107 = .ok (.istore 7, 2) := by decide +kernel
theorem dX8_roughest_109 : decode cX8_roughest 109 = .ok (.iload 7, 2) := by decide +kernel
theorem dX8_roughest_111 : decode cX8_roughest 111 = .ok (.iload 4, 2) := by decide +kernel
theorem dX8_roughest_113 : decode cX8_roughest 113 = .ok (.if_icmp .le 10, 3) := by decide +kernel
theorem dX8_roughest_116 : decode cX8_roughest 116 = .ok (.iload 7, 2) := by decide +kernel
theorem dX8_roughest_118 : decode cX8_roughest 118 = .ok (.istore 4, 2) := by decide +kernel
theorem dX8_roughest_120 : decode cX8_roughest 120 = .ok (.iload 5, 2) := by decide +kernel
theorem dX8_roughest_122 : decode cX8_roughest 122 = .ok (.istore_n 3, 1) := by decide +kernel
theorem dX8_roughest_123 : decode cX8_roughest 123 = .ok (.iinc 5 1, 3) := by decide +kernel
theorem dX8_roughest_126 : decode cX8_roughest 126 = .ok (.goto (-84), 3) := by decide +kernel
theorem dX8_roughest_129 : decode cX8_roughest 129 = .ok (.iload_n 3, 1) := by decide +kernel
theorem dX8_roughest_130 : decode cX8_roughest 130 = .ok (.ireturn, 1) := by decide +kernel
theorem dX8_flow_0 : decode cX8_flow 0 = .ok (.iload_n 1, 1) := by decide +kernel
theorem dX8_flow_1 : decode cX8_flow 1 = .ok (.invokestatic 140, 3) := by decide +kernel
theorem dX8_flow_4 : decode cX8_flow 4 = .ok (.ifCond .eq 17, 3) := by decide +kernel
theorem dX8_flow_7 : decode cX8_flow 7 = .ok (.iload_n 1, 1) := by decide +kernel
theorem dX8_flow_8 : decode cX8_flow 8 = .ok (.aload_n 0, 1) := by decide +kernel
theorem dX8_flow_9 : decode cX8_flow 9 = .ok (.getfield 28, 3) := by decide +kernel
theorem dX8_flow_12 : decode cX8_flow 12 = .ok (.getfield 82, 3) := by decide +kernel
theorem dX8_flow_15 : decode cX8_flow 15 = .ok (.invokestatic 226, 3) := by decide +kernel
theorem dX8_flow_18 : decode cX8_flow 18 = .ok (.goto 4, 3) := by decide +kernel
theorem dX8_flow_21 : decode cX8_flow 21 = .ok (.iconst (-1), 1) := by decide +kernel
theorem dX8_flow_22 : decode cX8_flow 22 = .ok (.ireturn, 1) := by decide +kernel
theorem dX8_remembers_0 : decode cX8_remembers 0 = .ok (.iload_n 1, 1) := by decide +kernel
theorem dX8_remembers_1 : decode cX8_remembers 1 = .ok (.invokestatic 112, 3) := by decide +kernel
theorem dX8_remembers_4 : decode cX8_remembers 4 = .ok (.ifCond .eq 10, 3) := by decide +kernel
theorem dX8_remembers_7 : decode cX8_remembers 7 = .ok (.iload_n 2, 1) := by decide +kernel
theorem dX8_remembers_8 : decode cX8_remembers 8 = .ok (.invokestatic 140, 3) := by decide +kernel
theorem dX8_remembers_11 : decode cX8_remembers 11 = .ok (.ifCond .ne 5, 3) := by decide +kernel
theorem dX8_remembers_14 : decode cX8_remembers 14 = .ok (.iconst (-1), 1) := by decide +kernel
theorem dX8_remembers_15 : decode cX8_remembers 15 = .ok (.ireturn, 1) := by decide +kernel
theorem dX8_remembers_16 : decode cX8_remembers 16 = .ok (.aload_n 0, 1) := by decide +kernel
theorem dX8_remembers_17 : decode cX8_remembers 17 = .ok (.getfield 28, 3) := by decide +kernel
theorem dX8_remembers_20 : decode cX8_remembers 20 = .ok (.getfield 147, 3) := by decide +kernel
theorem dX8_remembers_23 : decode cX8_remembers 23 = .ok (.iload_n 1, 1) := by decide +kernel
theorem dX8_remembers_24 : decode cX8_remembers 24 = .ok (.aaload, 1) := by decide +kernel
theorem dX8_remembers_25 : decode cX8_remembers 25 = .ok (.getfield 229, 3) := by decide +kernel
theorem dX8_remembers_28 : decode cX8_remembers 28 = .ok (.astore 4, 2) := by decide +kernel
theorem dX8_remembers_30 : decode cX8_remembers 30 = .ok (.aload 4, 2) := by decide +kernel
theorem dX8_remembers_32 : decode cX8_remembers 32 = .ok (.iload_n 2, 1) := by decide +kernel
theorem dX8_remembers_33 : decode cX8_remembers 33 = .ok (.invokevirtual 233, 3) := by decide +kernel
theorem dX8_remembers_36 : decode cX8_remembers 36 = .ok (.istore 5, 2) := by decide +kernel
theorem dX8_remembers_38 : decode cX8_remembers 38 = .ok (.iload 5, 2) := by decide +kernel
theorem dX8_remembers_40 : decode cX8_remembers 40 = .ok (.iconst (-1), 1) := by decide +kernel
theorem dX8_remembers_41 : decode cX8_remembers 41 = .ok (.if_icmp .ne 5, 3) := by decide +kernel
theorem dX8_remembers_44 : decode cX8_remembers 44 = .ok (.iconst (-1), 1) := by decide +kernel
theorem dX8_remembers_45 : decode cX8_remembers 45 = .ok (.ireturn, 1) := by decide +kernel
theorem dX8_remembers_46 : decode cX8_remembers 46 = .ok (.iload_n 3, 1) := by decide +kernel
theorem dX8_remembers_47 : decode cX8_remembers 47 = .ok (.ifCond .ne 12, 3) := by decide +kernel
theorem dX8_remembers_50 : decode cX8_remembers 50 = .ok (.aload 4, 2) := by decide +kernel
theorem dX8_remembers_52 : decode cX8_remembers 52 = .ok (.getfield 239, 3) := by decide +kernel
theorem dX8_remembers_55 : decode cX8_remembers 55 = .ok (.iload 5, 2) := by decide +kernel
theorem dX8_remembers_57 : decode cX8_remembers 57 = .ok (.iaload, 1) := by decide +kernel
theorem dX8_remembers_58 : decode cX8_remembers 58 = .ok (.ireturn, 1) := by decide +kernel
theorem dX8_remembers_59 : decode cX8_remembers 59 = .ok (.iload_n 3, 1) := by decide +kernel
theorem dX8_remembers_60 : decode cX8_remembers 60 = .ok (.iconst 1, 1) := by decide +kernel
theorem dX8_remembers_61 : decode cX8_remembers 61 = .ok (.if_icmp .ne 14, 3) := by decide +kernel
theorem dX8_remembers_64 : decode cX8_remembers 64 = .ok (.aload 4, 2) := by decide +kernel
theorem dX8_remembers_66 : decode cX8_remembers 66 = .ok (.getfield 242, 3) := by decide +kernel
theorem dX8_remembers_69 : decode cX8_remembers 69 = .ok (.iload 5, 2) := by decide +kernel
theorem dX8_remembers_71 : decode cX8_remembers 71 = .ok (.iaload, 1) := by decide +kernel
theorem dX8_remembers_72 : decode cX8_remembers 72 = .ok (.goto 4, 3) := by decide +kernel
theorem dX8_remembers_75 : decode cX8_remembers 75 = .ok (.iconst (-1), 1) := by decide +kernel
theorem dX8_remembers_76 : decode cX8_remembers 76 = .ok (.ireturn, 1) := by decide +kernel
theorem dX8_flows_0 : decode cX8_flows 0 = .ok (.iload_n 1, 1) := by decide +kernel
theorem dX8_flows_1 : decode cX8_flows 1 = .ok (.invokestatic 112, 3) := by decide +kernel
theorem dX8_flows_4 : decode cX8_flows 4 = .ok (.ifCond .ne 5, 3) := by decide +kernel
theorem dX8_flows_7 : decode cX8_flows 7 = .ok (.iconst (-1), 1) := by decide +kernel
theorem dX8_flows_8 : decode cX8_flows 8 = .ok (.ireturn, 1) := by decide +kernel
theorem dX8_flows_9 : decode cX8_flows 9 = .ok (.aload_n 0, 1) := by decide +kernel
theorem dX8_flows_10 : decode cX8_flows 10 = .ok (.getfield 28, 3) := by decide +kernel
theorem dX8_flows_13 : decode cX8_flows 13 = .ok (.getfield 147, 3) := by decide +kernel
theorem dX8_flows_16 : decode cX8_flows 16 = .ok (.iload_n 1, 1) := by decide +kernel
theorem dX8_flows_17 : decode cX8_flows 17 = .ok (.aaload, 1) := by decide +kernel
theorem dX8_flows_18 : decode cX8_flows 18 = .ok (.getfield 229, 3) := by decide +kernel
theorem dX8_flows_21 : decode cX8_flows 21 = .ok (.astore_n 3, 1) := by decide +kernel
theorem dX8_flows_22 : decode cX8_flows 22 = .ok (.iload_n 2, 1) := by decide +kernel
theorem dX8_flows_23 : decode cX8_flows 23 = .ok (.iconst (-1), 1) := by decide +kernel
theorem dX8_flows_24 : decode cX8_flows 24 = .ok (.if_icmp .ne 8, 3) := by decide +kernel
theorem dX8_flows_27 : decode cX8_flows 27 = .ok (.aload_n 3, 1) := by decide +kernel
theorem dX8_flows_28 : decode cX8_flows 28 = .ok (.getfield 245, 3) := by decide +kernel
theorem dX8_flows_31 : decode cX8_flows 31 = .ok (.ireturn, 1) := by decide +kernel
theorem dX8_flows_32 : decode cX8_flows 32 = .ok (.aload_n 0, 1) := by decide +kernel
theorem dX8_flows_33 : decode cX8_flows 33 = .ok (.getfield 28, 3) := by decide +kernel
theorem dX8_flows_36 : decode cX8_flows 36 = .ok (.iload_n 2, 1) := by decide +kernel
theorem dX8_flows_37 : decode cX8_flows 37 = .ok (.invokevirtual 106, 3) := by decide +kernel
theorem dX8_flows_40 : decode cX8_flows 40 = .ok (.ifCond .eq 11, 3) := by decide +kernel
theorem dX8_flows_43 : decode cX8_flows 43 = .ok (.aload_n 3, 1) := by decide +kernel
theorem dX8_flows_44 : decode cX8_flows 44 = .ok (.iload_n 2, 1) := by decide +kernel
theorem dX8_flows_45 : decode cX8_flows 45 = .ok (.invokevirtual 248, 3) := by decide +kernel
theorem dX8_flows_48 : decode cX8_flows 48 = .ok (.goto 4, 3) := by decide +kernel
theorem dX8_flows_51 : decode cX8_flows 51 = .ok (.iconst (-1), 1) := by decide +kernel
theorem dX8_flows_52 : decode cX8_flows 52 = .ok (.ireturn, 1) := by decide +kernel
theorem dX8_flowAt_0 : decode cX8_flowAt 0 = .ok (.iload_n 1, 1) := by decide +kernel
theorem dX8_flowAt_1 : decode cX8_flowAt 1 = .ok (.invokestatic 112, 3) := by decide +kernel
theorem dX8_flowAt_4 : decode cX8_flowAt 4 = .ok (.ifCond .eq 26, 3) := by decide +kernel
theorem dX8_flowAt_7 : decode cX8_flowAt 7 = .ok (.iload_n 2, 1) := by decide +kernel
theorem dX8_flowAt_8 : decode cX8_flowAt 8 = .ok (.ifCond .lt 22, 3) := by decide +kernel
theorem dX8_flowAt_11 : decode cX8_flowAt 11 = .ok (.iload_n 2, 1) := by decide +kernel
theorem dX8_flowAt_12 : decode cX8_flowAt 12 = .ok (.aload_n 0, 1) := by decide +kernel
theorem dX8_flowAt_13 : decode cX8_flowAt 13 = .ok (.getfield 28, 3) := by decide +kernel
theorem dX8_flowAt_16 : decode cX8_flowAt 16 = .ok (.getfield 147, 3) := by decide +kernel
theorem dX8_flowAt_19 : decode cX8_flowAt 19 = .ok (.iload_n 1, 1) := by decide +kernel
theorem dX8_flowAt_20 : decode cX8_flowAt 20 = .ok (.aaload, 1) := by decide +kernel
theorem dX8_flowAt_21 : decode cX8_flowAt 21 = .ok (.getfield 229, 3) := by decide +kernel
theorem dX8_flowAt_24 : decode cX8_flowAt 24 = .ok (.getfield 245, 3) := by decide +kernel
theorem dX8_flowAt_27 : decode cX8_flowAt 27 = .ok (.if_icmp .lt 5, 3) := by decide +kernel
theorem dX8_flowAt_30 : decode cX8_flowAt 30 = .ok (.iconst (-1), 1) := by decide +kernel
theorem dX8_flowAt_31 : decode cX8_flowAt 31 = .ok (.ireturn, 1) := by decide +kernel
theorem dX8_flowAt_32 : decode cX8_flowAt 32 = .ok (.aload_n 0, 1) := by decide +kernel
theorem dX8_flowAt_33 : decode cX8_flowAt 33 = .ok (.getfield 28, 3) := by decide +kernel
theorem dX8_flowAt_36 : decode cX8_flowAt 36 = .ok (.getfield 147, 3) := by decide +kernel
theorem dX8_flowAt_39 : decode cX8_flowAt 39 = .ok (.iload_n 1, 1) := by decide +kernel
theorem dX8_flowAt_40 : decode cX8_flowAt 40 = .ok (.aaload, 1) := by decide +kernel
theorem dX8_flowAt_41 : decode cX8_flowAt 41 = .ok (.getfield 229, 3) := by decide +kernel
theorem dX8_flowAt_44 : decode cX8_flowAt 44 = .ok (.getfield 251, 3) := by decide +kernel
theorem dX8_flowAt_47 : decode cX8_flowAt 47 = .ok (.iload_n 2, 1) := by decide +kernel
theorem dX8_flowAt_48 : decode cX8_flowAt 48 = .ok (.iaload, 1) := by decide +kernel
theorem dX8_flowAt_49 : decode cX8_flowAt 49 = .ok (.ireturn, 1) := by decide +kernel
theorem dX8_astray_0 : decode cX8_astray 0 = .ok (.iload_n 1, 1) := by decide +kernel
theorem dX8_astray_1 : decode cX8_astray 1 = .ok (.invokestatic 112, 3) := by decide +kernel
theorem dX8_astray_4 : decode cX8_astray 4 = .ok (.ifCond .eq 10, 3) := by decide +kernel
theorem dX8_astray_7 : decode cX8_astray 7 = .ok (.iload_n 2, 1) := by decide +kernel
theorem dX8_astray_8 : decode cX8_astray 8 = .ok (.invokestatic 112, 3) := by decide +kernel
theorem dX8_astray_11 : decode cX8_astray 11 = .ok (.ifCond .ne 5, 3) := by decide +kernel
theorem dX8_astray_14 : decode cX8_astray 14 = .ok (.iconst (-1), 1) := by decide +kernel
theorem dX8_astray_15 : decode cX8_astray 15 = .ok (.ireturn, 1) := by decide +kernel
theorem dX8_astray_16 : decode cX8_astray 16 = .ok (.aload_n 0, 1) := by decide +kernel
theorem dX8_astray_17 : decode cX8_astray 17 = .ok (.getfield 28, 3) := by decide +kernel
theorem dX8_astray_20 : decode cX8_astray 20 = .ok (.getfield 147, 3) := by decide +kernel
theorem dX8_astray_23 : decode cX8_astray 23 = .ok (.iload_n 1, 1) := by decide +kernel
theorem dX8_astray_24 : decode cX8_astray 24 = .ok (.aaload, 1) := by decide +kernel
theorem dX8_astray_25 : decode cX8_astray 25 = .ok (.getfield 229, 3) := by decide +kernel
theorem dX8_astray_28 : decode cX8_astray 28 = .ok (.astore_n 3, 1) := by decide +kernel
theorem dX8_astray_29 : decode cX8_astray 29 = .ok (.aload_n 0, 1) := by decide +kernel
theorem dX8_astray_30 : decode cX8_astray 30 = .ok (.getfield 28, 3) := by decide +kernel
theorem dX8_astray_33 : decode cX8_astray 33 = .ok (.getfield 147, 3) := by decide +kernel
theorem dX8_astray_36 : decode cX8_astray 36 = .ok (.iload_n 2, 1) := by decide +kernel
theorem dX8_astray_37 : decode cX8_astray 37 = .ok (.aaload, 1) := by decide +kernel
theorem dX8_astray_38 : decode cX8_astray 38 = .ok (.astore 4, 2) := by decide +kernel
theorem dX8_astray_40 : decode cX8_astray 40 = .ok (.iconst 0, 1) := by decide +kernel
theorem dX8_astray_41 : decode cX8_astray 41 = .ok (.istore 5, 2) := by decide +kernel
theorem dX8_astray_43 : decode cX8_astray 43 = .ok (.aload_n 0, 1) := by decide +kernel
theorem dX8_astray_44 : decode cX8_astray 44 = .ok (.aload_n 0, 1) := by decide +kernel
theorem dX8_astray_45 : decode cX8_astray 45 = .ok (.getfield 19, 3) := by decide +kernel
theorem dX8_astray_48 : decode cX8_astray 48 = .ok (.getfield 195, 3) := by decide +kernel
theorem dX8_astray_51 : decode cX8_astray 51 = .ok (.aload 4, 2) := by decide +kernel
theorem dX8_astray_53 : decode cX8_astray 53 = .ok (.invokevirtual 156, 3) := by decide +kernel
theorem dX8_astray_56 : decode cX8_astray 56 = .ok (.invokevirtual 160, 3) := by decide +kernel
theorem dX8_astray_59 : decode cX8_astray 59 = .ok (.iconst 0, 1) := by decide +kernel
theorem dX8_astray_60 : decode cX8_astray 60 = .ok (.istore 6, 2) := by decide +kernel
theorem dX8_astray_62 : decode cX8_astray 62 = .ok (.iload 6, 2) := by decide +kernel
theorem dX8_astray_64 : decode cX8_astray 64 = .ok (.aload_n 3, 1) := by decide +kernel
theorem dX8_astray_65 : decode cX8_astray 65 = .ok (.getfield 245, 3) := by decide +kernel
theorem dX8_astray_68 : decode cX8_astray 68 = .ok (.if_icmp .ge 70, 3) := by decide +kernel
theorem dX8_astray_71 : decode cX8_astray 71 = .ok (.aload_n 3, 1) := by decide +kernel
theorem dX8_astray_72 : decode cX8_astray 72 = .ok (.getfield 251, 3) := by decide +kernel
theorem dX8_astray_75 : decode cX8_astray 75 = .ok (.iload 6, 2) := by decide +kernel
theorem dX8_astray_77 : decode cX8_astray 77 = .ok (.iaload, 1) := by decide +kernel
theorem dX8_astray_78 : decode cX8_astray 78 = .ok (.istore 7, 2) := by decide +kernel
theorem dX8_astray_80 : decode cX8_astray 80 = .ok (.aload 4, 2) := by decide +kernel
theorem dX8_astray_82 : decode cX8_astray 82 = .ok (.iload 7, 2) := by decide +kernel
theorem dX8_astray_84 : decode cX8_astray 84 = .ok (.invokevirtual 254, 3) := by decide +kernel
theorem dX8_astray_87 : decode cX8_astray 87 = .ok (.istore 8, 2) := by decide +kernel
theorem dX8_astray_89 : decode cX8_astray 89 = .ok (.iload 8, 2) := by decide +kernel
theorem dX8_astray_91 : decode cX8_astray 91 = .ok (.iconst (-1), 1) := by decide +kernel
theorem dX8_astray_92 : decode cX8_astray 92 = .ok (.if_icmp .ne 25, 3) := by decide +kernel
theorem dX8_astray_95 : decode cX8_astray 95 = .ok (.aload_n 0, 1) := by decide +kernel
theorem dX8_astray_96 : decode cX8_astray 96 = .ok (.getfield 19, 3) := by decide +kernel
theorem dX8_astray_99 : decode cX8_astray 99 = .ok (.getfield 195, 3) := by decide +kernel
theorem dX8_astray_102 : decode cX8_astray 102 = .ok (.iload 7, 2) := by decide +kernel
theorem dX8_astray_104 : decode cX8_astray 104 = .ok (.aload_n 0, 1) := by decide +kernel
theorem dX8_astray_105 : decode cX8_astray 105 = .ok (.getfield 28, 3) := by decide +kernel
theorem dX8_astray_108 : decode cX8_astray 108 = .ok (.getfield 82, 3) := by decide +kernel
theorem dX8_astray_111 : decode cX8_astray 111 = .ok (.invokestatic 226, 3) := by decide +kernel
theorem dX8_astray_114 : decode cX8_astray 114 = .ok (.iaload, 1) := by decide +kernel
theorem dX8_astray_115 : decode cX8_astray 115 = .ok (.istore 8, 2) := by decide +kernel
theorem dX8_astray_117 : decode cX8_astray 117 = .ok (.iload 8, 2) := by decide +kernel
theorem dX8_astray_119 : decode cX8_astray 119 = .ok (.aload_n 3, 1) := by decide +kernel
theorem dX8_astray_120 : decode cX8_astray 120 = .ok (.getfield 239, 3) := by decide +kernel
theorem dX8_astray_123 : decode cX8_astray 123 = .ok (.iload 6, 2) := by decide +kernel
theorem dX8_astray_125 : decode cX8_astray 125 = .ok (.iaload, 1) := by decide +kernel
theorem dX8_astray_126 : decode cX8_astray 126 = .ok (.if_icmp .eq 6, 3) := by decide +kernel
theorem dX8_astray_129 : decode cX8_astray 129 = .ok (.iinc 5 1, 3) := by decide +kernel
theorem dX8_astray_132 : decode cX8_astray 132 = .ok (.iinc 6 1, 3) := by decide +kernel
theorem dX8_astray_135 : decode cX8_astray 135 = .ok (.goto (-73), 3) := by decide +kernel
theorem dX8_astray_138 : decode cX8_astray 138 = .ok (.iload 5, 2) := by decide +kernel
theorem dX8_astray_140 : decode cX8_astray 140 = .ok (.ireturn, 1) := by decide +kernel
theorem dX8_idle_0 : decode cX8_idle 0 = .ok (.iload_n 1, 1) := by decide +kernel
theorem dX8_idle_1 : decode cX8_idle 1 = .ok (.invokestatic 112, 3) := by decide +kernel
theorem dX8_idle_4 : decode cX8_idle 4 = .ok (.ifCond .eq 14, 3) := by decide +kernel
theorem dX8_idle_7 : decode cX8_idle 7 = .ok (.aload_n 0, 1) := by decide +kernel
theorem dX8_idle_8 : decode cX8_idle 8 = .ok (.getfield 28, 3) := by decide +kernel
theorem dX8_idle_11 : decode cX8_idle 11 = .ok (.iload_n 2, 1) := by decide +kernel
theorem dX8_idle_12 : decode cX8_idle 12 = .ok (.invokevirtual 106, 3) := by decide +kernel
theorem dX8_idle_15 : decode cX8_idle 15 = .ok (.ifCond .ne 5, 3) := by decide +kernel
theorem dX8_idle_18 : decode cX8_idle 18 = .ok (.iconst (-1), 1) := by decide +kernel
theorem dX8_idle_19 : decode cX8_idle 19 = .ok (.ireturn, 1) := by decide +kernel
theorem dX8_idle_20 : decode cX8_idle 20 = .ok (.aload_n 0, 1) := by decide +kernel
theorem dX8_idle_21 : decode cX8_idle 21 = .ok (.getfield 28, 3) := by decide +kernel
theorem dX8_idle_24 : decode cX8_idle 24 = .ok (.getfield 147, 3) := by decide +kernel
theorem dX8_idle_27 : decode cX8_idle 27 = .ok (.iload_n 1, 1) := by decide +kernel
theorem dX8_idle_28 : decode cX8_idle 28 = .ok (.aaload, 1) := by decide +kernel
theorem dX8_idle_29 : decode cX8_idle 29 = .ok (.getfield 229, 3) := by decide +kernel
theorem dX8_idle_32 : decode cX8_idle 32 = .ok (.iload_n 2, 1) := by decide +kernel
theorem dX8_idle_33 : decode cX8_idle 33 = .ok (.invokevirtual 257, 3) := by decide +kernel
theorem dX8_idle_36 : decode cX8_idle 36 = .ok (.istore_n 3, 1) := by decide +kernel
theorem dX8_idle_37 : decode cX8_idle 37 = .ok (.iload_n 3, 1) := by decide +kernel
theorem dX8_idle_38 : decode cX8_idle 38 = .ok (.iconst (-1), 1) := by decide +kernel
theorem dX8_idle_39 : decode cX8_idle 39 = .ok (.if_icmp .ne 13, 3) := by decide +kernel
theorem dX8_idle_42 : decode cX8_idle 42 = .ok (.aload_n 0, 1) := by decide +kernel
theorem dX8_idle_43 : decode cX8_idle 43 = .ok (.getfield 28, 3) := by decide +kernel
theorem dX8_idle_46 : decode cX8_idle 46 = .ok (.getfield 137, 3) := by decide +kernel
theorem dX8_idle_49 : decode cX8_idle 49 = .ok (.goto 14, 3) := by decide +kernel
theorem dX8_idle_52 : decode cX8_idle 52 = .ok (.iload_n 3, 1) := by decide +kernel
theorem dX8_idle_53 : decode cX8_idle 53 = .ok (.aload_n 0, 1) := by decide +kernel
theorem dX8_idle_54 : decode cX8_idle 54 = .ok (.getfield 28, 3) := by decide +kernel
theorem dX8_idle_57 : decode cX8_idle 57 = .ok (.getfield 128, 3) := by decide +kernel
theorem dX8_idle_60 : decode cX8_idle 60 = .ok (.iadd, 1) := by decide +kernel
theorem dX8_idle_61 : decode cX8_idle 61 = .ok (.iconst 1, 1) := by decide +kernel
theorem dX8_idle_62 : decode cX8_idle 62 = .ok (.iadd, 1) := by decide +kernel
theorem dX8_idle_63 : decode cX8_idle 63 = .ok (.ireturn, 1) := by decide +kernel
theorem dX8_makeTable_0 : decode cX8_makeTable 0 = .ok (.aload_n 0, 1) := by decide +kernel
theorem dX8_makeTable_1 : decode cX8_makeTable 1 = .ok (.getfield 19, 3) := by decide +kernel
theorem dX8_makeTable_4 : decode cX8_makeTable 4 = .ok (.aload_n 1, 1) := by decide +kernel
theorem dX8_makeTable_5 : decode cX8_makeTable 5 = .ok (.aload_n 0, 1) := by decide +kernel
theorem dX8_makeTable_6 : decode cX8_makeTable 6 = .ok (.getfield 28, 3) := by decide +kernel
theorem dX8_makeTable_9 : decode cX8_makeTable 9 = .ok (.iload_n 2, 1) := by decide +kernel
theorem dX8_makeTable_10 : decode cX8_makeTable 10 = .ok (.aload_n 0, 1) := by decide +kernel
theorem dX8_makeTable_11 : decode cX8_makeTable 11 = .ok (.getfield 28, 3) := by decide +kernel
theorem dX8_makeTable_14 : decode cX8_makeTable 14 = .ok (.getfield 82, 3) := by decide +kernel
theorem dX8_makeTable_17 : decode cX8_makeTable 17 = .ok (.invokevirtual 260, 3) := by decide +kernel
theorem dX8_makeTable_20 : decode cX8_makeTable 20 = .ok (.return_, 1) := by decide +kernel
theorem dX8_changes_0 : decode cX8_changes 0 = .ok (.iconst 0, 1) := by decide +kernel
theorem dX8_changes_1 : decode cX8_changes 1 = .ok (.istore 5, 2) := by decide +kernel
theorem dX8_changes_3 : decode cX8_changes 3 = .ok (.iconst 0, 1) := by decide +kernel
theorem dX8_changes_4 : decode cX8_changes 4 = .ok (.istore 6, 2) := by decide +kernel
theorem dX8_changes_6 : decode cX8_changes 6 = .ok (.iload 6, 2) := by decide +kernel
theorem dX8_changes_8 : decode cX8_changes 8 = .ok (.aload_n 0, 1) := by decide +kernel
theorem dX8_changes_9 : decode cX8_changes 9 = .ok (.getfield 28, 3) := by decide +kernel
theorem dX8_changes_12 : decode cX8_changes 12 = .ok (.getfield 82, 3) := by decide +kernel
theorem dX8_changes_15 : decode cX8_changes 15 = .ok (.if_icmp .ge 39, 3) := by decide +kernel
theorem dX8_changes_18 : decode cX8_changes 18 = .ok (.aload_n 1, 1) := by decide +kernel
theorem dX8_changes_19 : decode cX8_changes 19 = .ok (.iload 6, 2) := by decide +kernel
theorem dX8_changes_21 : decode cX8_changes 21 = .ok (.iaload, 1) := by decide +kernel
theorem dX8_changes_22 : decode cX8_changes 22 = .ok (.aload_n 2, 1) := by decide +kernel
theorem dX8_changes_23 : decode cX8_changes 23 = .ok (.iload 6, 2) := by decide +kernel
theorem dX8_changes_25 : decode cX8_changes 25 = .ok (.iaload, 1) := by decide +kernel
theorem dX8_changes_26 : decode cX8_changes 26 = .ok (.if_icmp .eq 22, 3) := by decide +kernel
theorem dX8_changes_29 : decode cX8_changes 29 = .ok (.iload 4, 2) := by decide +kernel
theorem dX8_changes_31 : decode cX8_changes 31 = .ok (.ifCond .eq 14, 3) := by decide +kernel
theorem dX8_changes_34 : decode cX8_changes 34 = .ok (.iload_n 3, 1) := by decide +kernel
theorem dX8_changes_35 : decode cX8_changes 35 = .ok (.aload_n 1, 1) := by decide +kernel
theorem dX8_changes_36 : decode cX8_changes 36 = .ok (.iload 6, 2) := by decide +kernel
theorem dX8_changes_38 : decode cX8_changes 38 = .ok (.iaload, 1) := by decide +kernel
theorem dX8_changes_39 : decode cX8_changes 39 = .ok (.invokestatic 222, 3) := by decide +kernel
theorem dX8_changes_42 : decode cX8_changes 42 = .ok (.ifCond .eq 6, 3) := by decide +kernel
theorem dX8_changes_45 : decode cX8_changes 45 = .ok (.iinc 5 1, 3) := by decide +kernel
theorem dX8_changes_48 : decode cX8_changes 48 = .ok (.iinc 6 1, 3) := by decide +kernel
theorem dX8_changes_51 : decode cX8_changes 51 = .ok (.goto (-45), 3) := by decide +kernel
theorem dX8_changes_54 : decode cX8_changes 54 = .ok (.iload 5, 2) := by decide +kernel
theorem dX8_changes_56 : decode cX8_changes 56 = .ok (.ireturn, 1) := by decide +kernel
theorem dX8_unevenAt_0 : decode cX8_unevenAt 0 = .ok (.aload_n 0, 1) := by decide +kernel
theorem dX8_unevenAt_1 : decode cX8_unevenAt 1 = .ok (.getfield 19, 3) := by decide +kernel
theorem dX8_unevenAt_4 : decode cX8_unevenAt 4 = .ok (.aload_n 0, 1) := by decide +kernel
theorem dX8_unevenAt_5 : decode cX8_unevenAt 5 = .ok (.getfield 19, 3) := by decide +kernel
theorem dX8_unevenAt_8 : decode cX8_unevenAt 8 = .ok (.getfield 195, 3) := by decide +kernel
theorem dX8_unevenAt_11 : decode cX8_unevenAt 11 = .ok (.aload_n 0, 1) := by decide +kernel
theorem dX8_unevenAt_12 : decode cX8_unevenAt 12 = .ok (.getfield 28, 3) := by decide +kernel
theorem dX8_unevenAt_15 : decode cX8_unevenAt 15 = .ok (.iload_n 1, 1) := by decide +kernel
theorem dX8_unevenAt_16 : decode cX8_unevenAt 16 = .ok (.iload_n 2, 1) := by decide +kernel
theorem dX8_unevenAt_17 : decode cX8_unevenAt 17 = .ok (.invokevirtual 260, 3) := by decide +kernel
theorem dX8_unevenAt_20 : decode cX8_unevenAt 20 = .ok (.iconst 0, 1) := by decide +kernel
theorem dX8_unevenAt_21 : decode cX8_unevenAt 21 = .ok (.istore_n 3, 1) := by decide +kernel
theorem dX8_unevenAt_22 : decode cX8_unevenAt 22 = .ok (.iconst 0, 1) := by decide +kernel
theorem dX8_unevenAt_23 : decode cX8_unevenAt 23 = .ok (.istore 4, 2) := by decide +kernel
theorem dX8_unevenAt_25 : decode cX8_unevenAt 25 = .ok (.iload 4, 2) := by decide +kernel
theorem dX8_unevenAt_27 : decode cX8_unevenAt 27 = .ok (.aload_n 0, 1) := by decide +kernel
theorem dX8_unevenAt_28 : decode cX8_unevenAt 28 = .ok (.getfield 28, 3) := by decide +kernel
theorem dX8_unevenAt_31 : decode cX8_unevenAt 31 = .ok (.getfield 99, 3) := by decide +kernel
theorem dX8_unevenAt_34 : decode cX8_unevenAt 34 = .ok (.if_icmp .ge 31, 3) := by decide +kernel
theorem dX8_unevenAt_37 : decode cX8_unevenAt 37 = .ok (.iload_n 1, 1) := by decide +kernel
theorem dX8_unevenAt_38 : decode cX8_unevenAt 38 = .ok (.iload 4, 2) := by decide +kernel
theorem dX8_unevenAt_40 : decode cX8_unevenAt 40 = .ok (.invokestatic 222, 3) := by decide +kernel
theorem dX8_unevenAt_43 : decode cX8_unevenAt 43 = .ok (.ifCond .eq 16, 3) := by decide +kernel
theorem dX8_unevenAt_46 : decode cX8_unevenAt 46 = .ok (.iload_n 3, 1) := by decide +kernel
theorem dX8_unevenAt_47 : decode cX8_unevenAt 47 = .ok (.aload_n 0, 1) := by decide +kernel
theorem dX8_unevenAt_48 : decode cX8_unevenAt 48 = .ok (.getfield 28, 3) := by decide +kernel
theorem dX8_unevenAt_51 : decode cX8_unevenAt 51 = .ok (.getfield 109, 3) := by decide +kernel
theorem dX8_unevenAt_54 : decode cX8_unevenAt 54 = .ok (.iload 4, 2) := by decide +kernel
theorem dX8_unevenAt_56 : decode cX8_unevenAt 56 = .ok (.iaload, 1) := by decide +kernel
theorem dX8_unevenAt_57 : decode cX8_unevenAt 57 = .ok (.iadd, 1) := by decide +kernel
theorem dX8_unevenAt_58 : decode cX8_unevenAt 58 = .ok (.istore_n 3, 1) := by decide +kernel
theorem dX8_unevenAt_59 : decode cX8_unevenAt 59 = .ok (.iinc 4 1, 3) := by decide +kernel
theorem dX8_unevenAt_62 : decode cX8_unevenAt 62 = .ok (.goto (-37), 3) := by decide +kernel
theorem dX8_unevenAt_65 : decode cX8_unevenAt 65 = .ok (.iconst 0, 1) := by decide +kernel
theorem dX8_unevenAt_66 : decode cX8_unevenAt 66 = .ok (.istore 4, 2) := by decide +kernel
theorem dX8_unevenAt_68 : decode cX8_unevenAt 68 = .ok (.iconst 0, 1) := by decide +kernel
theorem dX8_unevenAt_69 : decode cX8_unevenAt 69 = .ok (.istore 5, 2) := by decide +kernel
theorem dX8_unevenAt_71 : decode cX8_unevenAt 71 = .ok (.iload 5, 2) := by decide +kernel
theorem dX8_unevenAt_73 : decode cX8_unevenAt 73 = .ok (.aload_n 0, 1) := by decide +kernel
theorem dX8_unevenAt_74 : decode cX8_unevenAt 74 = .ok (.getfield 28, 3) := by decide +kernel
theorem dX8_unevenAt_77 : decode cX8_unevenAt 77 = .ok (.getfield 99, 3) := by decide +kernel
theorem dX8_unevenAt_80 : decode cX8_unevenAt 80 = .ok (.if_icmp .ge 60, 3) := by decide +kernel
theorem dX8_unevenAt_83 : decode cX8_unevenAt 83 = .ok (.iload_n 1, 1) := by decide +kernel
theorem dX8_unevenAt_84 : decode cX8_unevenAt 84 = .ok (.iload 5, 2) := by decide +kernel
theorem dX8_unevenAt_86 : decode cX8_unevenAt 86 = .ok (.invokestatic 222, 3) := by decide +kernel
theorem dX8_unevenAt_89 : decode cX8_unevenAt 89 = .ok (.ifCond .eq 45, 3) := by decide +kernel
theorem dX8_unevenAt_92 : decode cX8_unevenAt 92 = .ok (.iload_n 2, 1) := by decide +kernel
theorem dX8_unevenAt_93 : decode cX8_unevenAt 93 = .ok (.aload_n 0, 1) := by decide +kernel
theorem dX8_unevenAt_94 : decode cX8_unevenAt 94 = .ok (.getfield 28, 3) := by decide +kernel
theorem dX8_unevenAt_97 : decode cX8_unevenAt 97 = .ok (.getfield 109, 3) := by decide +kernel
theorem dX8_unevenAt_100 : decode cX8_unevenAt 100 = .ok (.iload 5, 2) := by decide +kernel
theorem dX8_unevenAt_102 : decode cX8_unevenAt 102 = .ok (.iaload, 1) := by decide +kernel
theorem dX8_unevenAt_103 : decode cX8_unevenAt 103 = .ok (.imul, 1) := by decide +kernel
theorem dX8_unevenAt_104 : decode cX8_unevenAt 104 = .ok (.aload_n 0, 1) := by decide +kernel
theorem dX8_unevenAt_105 : decode cX8_unevenAt 105 = .ok (.getfield 19, 3) := by decide +kernel
theorem dX8_unevenAt_108 : decode cX8_unevenAt 108 = .ok (.getfield 195, 3) := by decide +kernel
theorem dX8_unevenAt_111 : decode cX8_unevenAt 111 = .ok (.iload_n 2, 1) := by decide +kernel
theorem dX8_unevenAt_112 : decode cX8_unevenAt 112 = .ok (.iload 5, 2) := by decide +kernel
theorem dX8_unevenAt_114 : decode cX8_unevenAt 114 = .ok (.invokestatic 198, 3) := by decide +kernel
theorem dX8_unevenAt_117 : decode cX8_unevenAt 117 = .ok (.iload_n 3, 1) := by decide +kernel
theorem dX8_unevenAt_118 : decode cX8_unevenAt 118 = .ok (.imul, 1) := by decide +kernel
theorem dX8_unevenAt_119 : decode cX8_unevenAt 119 = .ok (.isub, 1) := by decide +kernel
theorem dX8_unevenAt_120 : decode cX8_unevenAt 120 = .ok (.istore 6, 2) := by decide +kernel
theorem dX8_unevenAt_122 : decode cX8_unevenAt 122 = .ok (.iload 4, 2) := by decide +kernel
theorem dX8_unevenAt_124 : decode cX8_unevenAt 124 = .ok (.iload 6, 2) := by decide +kernel
theorem dX8_unevenAt_126 : decode cX8_unevenAt 126 = .ok (.invokestatic 264, 3) := by decide +kernel
theorem dX8_unevenAt_129 : decode cX8_unevenAt 129 = .ok (.invokestatic 269, 3) := by decide +kernel
theorem dX8_unevenAt_132 : decode cX8_unevenAt 132 = .ok (.istore 4, 2) := by decide +kernel
theorem dX8_unevenAt_134 : decode cX8_unevenAt 134 = .ok (.iinc 5 1, 3) := by decide +kernel
theorem dX8_unevenAt_137 : decode cX8_unevenAt 137 = .ok (.goto (-66), 3) := by decide +kernel
theorem dX8_unevenAt_140 : decode cX8_unevenAt 140 = .ok (.iload 4, 2) := by decide +kernel
theorem dX8_unevenAt_142 : decode cX8_unevenAt 142 = .ok (.ireturn, 1) := by decide +kernel
theorem dX8_slotsOf_0 : decode cX8_slotsOf 0 = .ok (.iconst 0, 1) := by decide +kernel
theorem dX8_slotsOf_1 : decode cX8_slotsOf 1 = .ok (.istore_n 3, 1) := by decide +kernel
theorem dX8_slotsOf_2 : decode cX8_slotsOf 2 = .ok (.iconst 0, 1) := by decide +kernel
theorem dX8_slotsOf_3 : decode cX8_slotsOf 3 = .ok (.istore 4, 2) := by decide +kernel
theorem dX8_slotsOf_5 : decode cX8_slotsOf 5 = .ok (.iload 4, 2) := by decide +kernel
theorem dX8_slotsOf_7 : decode cX8_slotsOf 7 = .ok (.iload_n 1, 1) := by decide +kernel
theorem dX8_slotsOf_8 : decode cX8_slotsOf 8 = .ok (.if_icmp .ge 20, 3) := by decide +kernel
theorem dX8_slotsOf_11 : decode cX8_slotsOf 11 = .ok (.aload_n 0, 1) := by decide +kernel
theorem dX8_slotsOf_12 : decode cX8_slotsOf 12 = .ok (.iload 4, 2) := by decide +kernel
theorem dX8_slotsOf_14 : decode cX8_slotsOf 14 = .ok (.iaload, 1) := by decide +kernel
theorem dX8_slotsOf_15 : decode cX8_slotsOf 15 = .ok (.iload_n 2, 1) := by decide +kernel
theorem dX8_slotsOf_16 : decode cX8_slotsOf 16 = .ok (.if_icmp .ne 6, 3) := by decide +kernel
theorem dX8_slotsOf_19 : decode cX8_slotsOf 19 = .ok (.iinc 3 1, 3) := by decide +kernel
theorem dX8_slotsOf_22 : decode cX8_slotsOf 22 = .ok (.iinc 4 1, 3) := by decide +kernel
theorem dX8_slotsOf_25 : decode cX8_slotsOf 25 = .ok (.goto (-20), 3) := by decide +kernel
theorem dX8_slotsOf_28 : decode cX8_slotsOf 28 = .ok (.iload_n 3, 1) := by decide +kernel
theorem dX8_slotsOf_29 : decode cX8_slotsOf 29 = .ok (.ireturn, 1) := by decide +kernel
theorem dX8_bitsOf_0 : decode cX8_bitsOf 0 = .ok (.fload_n 0, 1) := by decide +kernel
theorem dX8_bitsOf_1 : decode cX8_bitsOf 1 = .ok (.fconst 0, 1) := by decide +kernel
theorem dX8_bitsOf_2 : decode cX8_bitsOf 2 = .ok (.fcmp .g, 1) := by decide +kernel
theorem dX8_bitsOf_3 : decode cX8_bitsOf 3 = .ok (.ifCond .gt 5, 3) := by decide +kernel
theorem dX8_bitsOf_6 : decode cX8_bitsOf 6 = .ok (.iconst 0, 1) := by decide +kernel
theorem dX8_bitsOf_7 : decode cX8_bitsOf 7 = .ok (.ireturn, 1) := by decide +kernel
theorem dX8_bitsOf_8 : decode cX8_bitsOf 8 = .ok (.bipush 127, 2) := by decide +kernel
theorem dX8_bitsOf_10 : decode cX8_bitsOf 10 = .ok (.istore_n 1, 1) := by decide +kernel
theorem dX8_bitsOf_11 : decode cX8_bitsOf 11 = .ok (.fload_n 0, 1) := by decide +kernel
theorem dX8_bitsOf_12 : decode cX8_bitsOf 12 = .ok (.fstore_n 2, 1) := by decide +kernel
theorem dX8_bitsOf_13 : decode cX8_bitsOf 13 = .ok (.iconst 0, 1) := by decide +kernel
theorem dX8_bitsOf_14 : decode cX8_bitsOf 14 = .ok (.istore_n 3, 1) := by decide +kernel
theorem dX8_bitsOf_15 : decode cX8_bitsOf 15 = .ok (.iload_n 3, 1) := by decide +kernel
theorem dX8_bitsOf_16 : decode cX8_bitsOf 16 = .ok (.bipush 126, 2) := by decide +kernel
theorem dX8_bitsOf_18 : decode cX8_bitsOf 18 = .ok (.if_icmp .ge 22, 3) := by decide +kernel
theorem dX8_bitsOf_21 : decode cX8_bitsOf 21 = .ok (.fload_n 2, 1) := by decide +kernel
theorem dX8_bitsOf_22 : decode cX8_bitsOf 22 = .ok (.fconst 1, 1) := by decide +kernel
theorem dX8_bitsOf_23 : decode cX8_bitsOf 23 = .ok (.fcmp .g, 1) := by decide +kernel
theorem dX8_bitsOf_24 : decode cX8_bitsOf 24 = .ok (.ifCond .ge 16, 3) := by decide +kernel
theorem dX8_bitsOf_27 : decode cX8_bitsOf 27 = .ok (.fload_n 2, 1) := by decide +kernel
theorem dX8_bitsOf_28 : decode cX8_bitsOf 28 = .ok (.fconst 2, 1) := by decide +kernel
theorem dX8_bitsOf_29 : decode cX8_bitsOf 29 = .ok (.fmul, 1) := by decide +kernel
theorem dX8_bitsOf_30 : decode cX8_bitsOf 30 = .ok (.fstore_n 2, 1) := by decide +kernel
theorem dX8_bitsOf_31 : decode cX8_bitsOf 31 = .ok (.iinc 1 (-1), 3) := by decide +kernel
theorem dX8_bitsOf_34 : decode cX8_bitsOf 34 = .ok (.iinc 3 1, 3) := by decide +kernel
theorem dX8_bitsOf_37 : decode cX8_bitsOf 37 = .ok (.goto (-22), 3) := by decide +kernel
theorem dX8_bitsOf_40 : decode cX8_bitsOf 40 = .ok (.iload_n 1, 1) := by decide +kernel
theorem dX8_bitsOf_41 : decode cX8_bitsOf 41 = .ok (.bipush 23, 2) := by decide +kernel
theorem dX8_bitsOf_43 : decode cX8_bitsOf 43 = .ok (.ishl, 1) := by decide +kernel
theorem dX8_bitsOf_44 : decode cX8_bitsOf 44 = .ok (.fload_n 2, 1) := by decide +kernel
theorem dX8_bitsOf_45 : decode cX8_bitsOf 45 = .ok (.ldc_w 272, 3) := by decide +kernel
theorem dX8_bitsOf_48 : decode cX8_bitsOf 48 = .ok (.fmul, 1) := by decide +kernel
theorem dX8_bitsOf_49 : decode cX8_bitsOf 49 = .ok (.f2i, 1) := by decide +kernel
theorem dX8_bitsOf_50 : decode cX8_bitsOf 50 = .ok (.iadd, 1) := by decide +kernel
theorem dX8_bitsOf_51 : decode cX8_bitsOf 51 = .ok (.ldc_w 273, 3) := by decide +kernel
theorem dX8_bitsOf_54 : decode cX8_bitsOf 54 = .ok (.isub, 1) := by decide +kernel
theorem dX8_bitsOf_55 : decode cX8_bitsOf 55 = .ok (.ireturn, 1) := by decide +kernel
theorem dX8_mix_0 : decode cX8_mix 0 = .ok (.iload_n 0, 1) := by decide +kernel
theorem dX8_mix_1 : decode cX8_mix 1 = .ok (.iload_n 1, 1) := by decide +kernel
theorem dX8_mix_2 : decode cX8_mix 2 = .ok (.imul, 1) := by decide +kernel
theorem dX8_mix_3 : decode cX8_mix 3 = .ok (.istore_n 2, 1) := by decide +kernel
theorem dX8_mix_4 : decode cX8_mix 4 = .ok (.iload_n 2, 1) := by decide +kernel
theorem dX8_mix_5 : decode cX8_mix 5 = .ok (.iload_n 2, 1) := by decide +kernel
theorem dX8_mix_6 : decode cX8_mix 6 = .ok (.bipush 15, 2) := by decide +kernel
theorem dX8_mix_8 : decode cX8_mix 8 = .ok (.iushr, 1) := by decide +kernel
theorem dX8_mix_9 : decode cX8_mix 9 = .ok (.ixor, 1) := by decide +kernel
theorem dX8_mix_10 : decode cX8_mix 10 = .ok (.istore_n 2, 1) := by decide +kernel
theorem dX8_mix_11 : decode cX8_mix 11 = .ok (.iload_n 2, 1) := by decide +kernel
theorem dX8_mix_12 : decode cX8_mix 12 = .ok (.ldc_w 274, 3) := by decide +kernel
theorem dX8_mix_15 : decode cX8_mix 15 = .ok (.imul, 1) := by decide +kernel
theorem dX8_mix_16 : decode cX8_mix 16 = .ok (.istore_n 2, 1) := by decide +kernel
theorem dX8_mix_17 : decode cX8_mix 17 = .ok (.iload_n 2, 1) := by decide +kernel
theorem dX8_mix_18 : decode cX8_mix 18 = .ok (.iload_n 2, 1) := by decide +kernel
theorem dX8_mix_19 : decode cX8_mix 19 = .ok (.bipush 13, 2) := by decide +kernel
theorem dX8_mix_21 : decode cX8_mix 21 = .ok (.iushr, 1) := by decide +kernel
theorem dX8_mix_22 : decode cX8_mix 22 = .ok (.ixor, 1) := by decide +kernel
theorem dX8_mix_23 : decode cX8_mix 23 = .ok (.istore_n 2, 1) := by decide +kernel
theorem dX8_mix_24 : decode cX8_mix 24 = .ok (.iload_n 2, 1) := by decide +kernel
theorem dX8_mix_25 : decode cX8_mix 25 = .ok (.iconst 1, 1) := by decide +kernel
theorem dX8_mix_26 : decode cX8_mix 26 = .ok (.iushr, 1) := by decide +kernel
theorem dX8_mix_27 : decode cX8_mix 27 = .ok (.ireturn, 1) := by decide +kernel
theorem dX8_modulo_0 : decode cX8_modulo 0 = .ok (.iload_n 1, 1) := by decide +kernel
theorem dX8_modulo_1 : decode cX8_modulo 1 = .ok (.ifCond .le 9, 3) := by decide +kernel
theorem dX8_modulo_4 : decode cX8_modulo 4 = .ok (.iload_n 0, 1) := by decide +kernel
theorem dX8_modulo_5 : decode cX8_modulo 5 = .ok (.iload_n 1, 1) := by decide +kernel
theorem dX8_modulo_6 : decode cX8_modulo 6 = .ok (.irem, 1) := by decide +kernel
theorem dX8_modulo_7 : decode cX8_modulo 7 = .ok (.goto 4, 3) := by decide +kernel
theorem dX8_modulo_10 : decode cX8_modulo 10 = .ok (.iconst 0, 1) := by decide +kernel
theorem dX8_modulo_11 : decode cX8_modulo 11 = .ok (.ireturn, 1) := by decide +kernel
theorem dX8_offsetOf_0 : decode cX8_offsetOf 0 = .ok (.iload_n 0, 1) := by decide +kernel
theorem dX8_offsetOf_1 : decode cX8_offsetOf 1 = .ok (.ldc_w 275, 3) := by decide +kernel
theorem dX8_offsetOf_4 : decode cX8_offsetOf 4 = .ok (.invokestatic 276, 3) := by decide +kernel
theorem dX8_offsetOf_7 : decode cX8_offsetOf 7 = .ok (.iload_n 1, 1) := by decide +kernel
theorem dX8_offsetOf_8 : decode cX8_offsetOf 8 = .ok (.invokestatic 192, 3) := by decide +kernel
theorem dX8_offsetOf_11 : decode cX8_offsetOf 11 = .ok (.ireturn, 1) := by decide +kernel
theorem dX8_skipOf_0 : decode cX8_skipOf 0 = .ok (.iload_n 0, 1) := by decide +kernel
theorem dX8_skipOf_1 : decode cX8_skipOf 1 = .ok (.ldc_w 279, 3) := by decide +kernel
theorem dX8_skipOf_4 : decode cX8_skipOf 4 = .ok (.invokestatic 276, 3) := by decide +kernel
theorem dX8_skipOf_7 : decode cX8_skipOf 7 = .ok (.iload_n 1, 1) := by decide +kernel
theorem dX8_skipOf_8 : decode cX8_skipOf 8 = .ok (.iconst 1, 1) := by decide +kernel
theorem dX8_skipOf_9 : decode cX8_skipOf 9 = .ok (.isub, 1) := by decide +kernel
theorem dX8_skipOf_10 : decode cX8_skipOf 10 = .ok (.invokestatic 192, 3) := by decide +kernel
theorem dX8_skipOf_13 : decode cX8_skipOf 13 = .ok (.iconst 1, 1) := by decide +kernel
theorem dX8_skipOf_14 : decode cX8_skipOf 14 = .ok (.iadd, 1) := by decide +kernel
theorem dX8_skipOf_15 : decode cX8_skipOf 15 = .ok (.ireturn, 1) := by decide +kernel
theorem dX8_slotOfFlow_0 : decode cX8_slotOfFlow 0 = .ok (.iload_n 0, 1) := by decide +kernel
theorem dX8_slotOfFlow_1 : decode cX8_slotOfFlow 1 = .ok (.ldc_w 280, 3) := by decide +kernel
theorem dX8_slotOfFlow_4 : decode cX8_slotOfFlow 4 = .ok (.invokestatic 276, 3) := by decide +kernel
theorem dX8_slotOfFlow_7 : decode cX8_slotOfFlow 7 = .ok (.iload_n 1, 1) := by decide +kernel
theorem dX8_slotOfFlow_8 : decode cX8_slotOfFlow 8 = .ok (.invokestatic 192, 3) := by decide +kernel
theorem dX8_slotOfFlow_11 : decode cX8_slotOfFlow 11 = .ok (.ireturn, 1) := by decide +kernel
theorem dX8_isWithin_0 : decode cX8_isWithin 0 = .ok (.iload_n 0, 1) := by decide +kernel
theorem dX8_isWithin_1 : decode cX8_isWithin 1 = .ok (.iload_n 1, 1) := by decide +kernel
theorem dX8_isWithin_2 : decode cX8_isWithin 2 = .ok (.if_icmp .lt 12, 3) := by decide +kernel
theorem dX8_isWithin_5 : decode cX8_isWithin 5 = .ok (.iload_n 0, 1) := by decide +kernel
theorem dX8_isWithin_6 : decode cX8_isWithin 6 = .ok (.iload_n 2, 1) := by decide +kernel
theorem dX8_isWithin_7 : decode cX8_isWithin 7 = .ok (.if_icmp .gt 7, 3) := by decide +kernel
theorem dX8_isWithin_10 : decode cX8_isWithin 10 = .ok (.iconst 1, 1) := by decide +kernel
theorem dX8_isWithin_11 : decode cX8_isWithin 11 = .ok (.goto 4, 3) := by decide +kernel
theorem dX8_isWithin_14 : decode cX8_isWithin 14 = .ok (.iconst 0, 1) := by decide +kernel
theorem dX8_isWithin_15 : decode cX8_isWithin 15 = .ok (.ireturn, 1) := by decide +kernel
theorem dX8_isGate_0 : decode cX8_isGate 0 = .ok (.iload_n 0, 1) := by decide +kernel
theorem dX8_isGate_1 : decode cX8_isGate 1 = .ok (.iconst 0, 1) := by decide +kernel
theorem dX8_isGate_2 : decode cX8_isGate 2 = .ok (.iconst 3, 1) := by decide +kernel
theorem dX8_isGate_3 : decode cX8_isGate 3 = .ok (.invokestatic 92, 3) := by decide +kernel
theorem dX8_isGate_6 : decode cX8_isGate 6 = .ok (.ireturn, 1) := by decide +kernel
theorem dX8_isState_0 : decode cX8_isState 0 = .ok (.iload_n 0, 1) := by decide +kernel
theorem dX8_isState_1 : decode cX8_isState 1 = .ok (.iconst 0, 1) := by decide +kernel
theorem dX8_isState_2 : decode cX8_isState 2 = .ok (.iconst 2, 1) := by decide +kernel
theorem dX8_isState_3 : decode cX8_isState 3 = .ok (.invokestatic 92, 3) := by decide +kernel
theorem dX8_isState_6 : decode cX8_isState 6 = .ok (.ireturn, 1) := by decide +kernel
theorem dX8_isFlow_0 : decode cX8_isFlow 0 = .ok (.iload_n 0, 1) := by decide +kernel
theorem dX8_isFlow_1 : decode cX8_isFlow 1 = .ok (.iconst 0, 1) := by decide +kernel
theorem dX8_isFlow_2 : decode cX8_isFlow 2 = .ok (.sipush 9999, 3) := by decide +kernel
theorem dX8_isFlow_5 : decode cX8_isFlow 5 = .ok (.invokestatic 92, 3) := by decide +kernel
theorem dX8_isFlow_8 : decode cX8_isFlow 8 = .ok (.ireturn, 1) := by decide +kernel
theorem dX8_isSize_0 : decode cX8_isSize 0 = .ok (.iconst 0, 1) := by decide +kernel
theorem dX8_isSize_1 : decode cX8_isSize 1 = .ok (.istore_n 1, 1) := by decide +kernel
theorem dX8_isSize_2 : decode cX8_isSize 2 = .ok (.iload_n 1, 1) := by decide +kernel
theorem dX8_isSize_3 : decode cX8_isSize 3 = .ok (.getstatic 212, 3) := by decide +kernel
theorem dX8_isSize_6 : decode cX8_isSize 6 = .ok (.arraylength, 1) := by decide +kernel
theorem dX8_isSize_7 : decode cX8_isSize 7 = .ok (.if_icmp .ge 20, 3) := by decide +kernel
theorem dX8_isSize_10 : decode cX8_isSize 10 = .ok (.getstatic 212, 3) := by decide +kernel
theorem dX8_isSize_13 : decode cX8_isSize 13 = .ok (.iload_n 1, 1) := by decide +kernel
theorem dX8_isSize_14 : decode cX8_isSize 14 = .ok (.iaload, 1) := by decide +kernel
theorem dX8_isSize_15 : decode cX8_isSize 15 = .ok (.iload_n 0, 1) := by decide +kernel
theorem dX8_isSize_16 : decode cX8_isSize 16 = .ok (.if_icmp .ne 5, 3) := by decide +kernel
theorem dX8_isSize_19 : decode cX8_isSize 19 = .ok (.iconst 1, 1) := by decide +kernel
theorem dX8_isSize_20 : decode cX8_isSize 20 = .ok (.ireturn, 1) := by decide +kernel
theorem dX8_isSize_21 : decode cX8_isSize 21 = .ok (.iinc 1 1, 3) := by decide +kernel
theorem dX8_isSize_24 : decode cX8_isSize 24 = .ok (.goto (-22), 3) := by decide +kernel
theorem dX8_isSize_27 : decode cX8_isSize 27 = .ok (.iconst 0, 1) := by decide +kernel
theorem dX8_isSize_28 : decode cX8_isSize 28 = .ok (.ireturn, 1) := by decide +kernel
theorem dX8_isAmong_0 : decode cX8_isAmong 0 = .ok (.iload_n 1, 1) := by decide +kernel
theorem dX8_isAmong_1 : decode cX8_isAmong 1 = .ok (.ifCond .lt 16, 3) := by decide +kernel
theorem dX8_isAmong_4 : decode cX8_isAmong 4 = .ok (.iload_n 0, 1) := by decide +kernel
theorem dX8_isAmong_5 : decode cX8_isAmong 5 = .ok (.iload_n 1, 1) := by decide +kernel
theorem dX8_isAmong_6 : decode cX8_isAmong 6 = .ok (.ishr, 1) := by decide +kernel
theorem dX8_isAmong_7 : decode cX8_isAmong 7 = .ok (.iconst 1, 1) := by decide +kernel
theorem dX8_isAmong_8 : decode cX8_isAmong 8 = .ok (.iand, 1) := by decide +kernel
theorem dX8_isAmong_9 : decode cX8_isAmong 9 = .ok (.iconst 1, 1) := by decide +kernel
theorem dX8_isAmong_10 : decode cX8_isAmong 10 = .ok (.if_icmp .ne 7, 3) := by decide +kernel
theorem dX8_isAmong_13 : decode cX8_isAmong 13 = .ok (.iconst 1, 1) := by decide +kernel
theorem dX8_isAmong_14 : decode cX8_isAmong 14 = .ok (.goto 4, 3) := by decide +kernel
theorem dX8_isAmong_17 : decode cX8_isAmong 17 = .ok (.iconst 0, 1) := by decide +kernel
theorem dX8_isAmong_18 : decode cX8_isAmong 18 = .ok (.ireturn, 1) := by decide +kernel
theorem dX9_init_0 : decode cX9_init 0 = .ok (.aload_n 0, 1) := by decide +kernel
theorem dX9_init_1 : decode cX9_init 1 = .ok (.invokespecial 1, 3) := by decide +kernel
theorem dX9_init_4 : decode cX9_init 4 = .ok (.aload_n 0, 1) := by decide +kernel
theorem dX9_init_5 : decode cX9_init 5 = .ok (.sipush 641, 3) := by decide +kernel
theorem dX9_init_8 : decode cX9_init 8 = .ok (.newarray .int, 2) := by decide +kernel
theorem dX9_init_10 : decode cX9_init 10 = .ok (.putfield 7, 3) := by decide +kernel
theorem dX9_init_13 : decode cX9_init 13 = .ok (.aload_n 0, 1) := by decide +kernel
theorem dX9_init_14 : decode cX9_init 14 = .ok (.sipush 641, 3) := by decide +kernel
theorem dX9_init_17 : decode cX9_init 17 = .ok (.newarray .int, 2) := by decide +kernel
theorem dX9_init_19 : decode cX9_init 19 = .ok (.putfield 13, 3) := by decide +kernel
theorem dX9_init_22 : decode cX9_init 22 = .ok (.aload_n 0, 1) := by decide +kernel
theorem dX9_init_23 : decode cX9_init 23 = .ok (.bipush 97, 2) := by decide +kernel
theorem dX9_init_25 : decode cX9_init 25 = .ok (.newarray .int, 2) := by decide +kernel
theorem dX9_init_27 : decode cX9_init 27 = .ok (.putfield 16, 3) := by decide +kernel
theorem dX9_init_30 : decode cX9_init 30 = .ok (.aload_n 0, 1) := by decide +kernel
theorem dX9_init_31 : decode cX9_init 31 = .ok (.bipush 97, 2) := by decide +kernel
theorem dX9_init_33 : decode cX9_init 33 = .ok (.newarray .int, 2) := by decide +kernel
theorem dX9_init_35 : decode cX9_init 35 = .ok (.putfield 19, 3) := by decide +kernel
theorem dX9_init_38 : decode cX9_init 38 = .ok (.aload_n 0, 1) := by decide +kernel
theorem dX9_init_39 : decode cX9_init 39 = .ok (.bipush 8, 2) := by decide +kernel
theorem dX9_init_41 : decode cX9_init 41 = .ok (.newarray .boolean, 2) := by decide +kernel
theorem dX9_init_43 : decode cX9_init 43 = .ok (.putfield 22, 3) := by decide +kernel
theorem dX9_init_46 : decode cX9_init 46 = .ok (.aload_n 0, 1) := by decide +kernel
theorem dX9_init_47 : decode cX9_init 47 = .ok (.bipush 8, 2) := by decide +kernel
theorem dX9_init_49 : decode cX9_init 49 = .ok (.newarray .int, 2) := by decide +kernel
theorem dX9_init_51 : decode cX9_init 51 = .ok (.putfield 26, 3) := by decide +kernel
theorem dX9_init_54 : decode cX9_init 54 = .ok (.aload_n 0, 1) := by decide +kernel
theorem dX9_init_55 : decode cX9_init 55 = .ok (.bipush 8, 2) := by decide +kernel
theorem dX9_init_57 : decode cX9_init 57 = .ok (.newarray .int, 2) := by decide +kernel
theorem dX9_init_59 : decode cX9_init 59 = .ok (.putfield 29, 3) := by decide +kernel
theorem dX9_init_62 : decode cX9_init 62 = .ok (.aload_n 0, 1) := by decide +kernel
theorem dX9_init_63 : decode cX9_init 63 = .ok (.sipush 400, 3) := by decide +kernel
theorem dX9_init_66 : decode cX9_init 66 = .ok (.newarray .int, 2) := by decide +kernel
theorem dX9_init_68 : decode cX9_init 68 = .ok (.putfield 32, 3) := by decide +kernel
theorem dX9_init_71 : decode cX9_init 71 = .ok (.aload_n 0, 1) := by decide +kernel
theorem dX9_init_72 : decode cX9_init 72 = .ok (.getfield 7, 3) := by decide +kernel
theorem dX9_init_75 : decode cX9_init 75 = .ok (.iconst 0, 1) := by decide +kernel
theorem dX9_init_76 : decode cX9_init 76 = .ok (.bipush 7, 2) := by decide +kernel
theorem dX9_init_78 : decode cX9_init 78 = .ok (.iastore, 1) := by decide +kernel
theorem dX9_init_79 : decode cX9_init 79 = .ok (.aload_n 0, 1) := by decide +kernel
theorem dX9_init_80 : decode cX9_init 80 = .ok (.getfield 7, 3) := by decide +kernel
theorem dX9_init_83 : decode cX9_init 83 = .ok (.iconst 3, 1) := by decide +kernel
theorem dX9_init_84 : decode cX9_init 84 = .ok (.bipush 8, 2) := by decide +kernel
theorem dX9_init_86 : decode cX9_init 86 = .ok (.iastore, 1) := by decide +kernel
theorem dX9_init_87 : decode cX9_init 87 = .ok (.aload_n 0, 1) := by decide +kernel
theorem dX9_init_88 : decode cX9_init 88 = .ok (.getfield 7, 3) := by decide +kernel
theorem dX9_init_91 : decode cX9_init 91 = .ok (.iconst 4, 1) := by decide +kernel
theorem dX9_init_92 : decode cX9_init 92 = .ok (.bipush 20, 2) := by decide +kernel
theorem dX9_init_94 : decode cX9_init 94 = .ok (.iastore, 1) := by decide +kernel
theorem dX9_init_95 : decode cX9_init 95 = .ok (.return_, 1) := by decide +kernel
theorem dX9_thrown_0 : decode cX9_thrown 0 = .ok (.aload_n 0, 1) := by decide +kernel
theorem dX9_thrown_1 : decode cX9_thrown 1 = .ok (.getfield 35, 3) := by decide +kernel
theorem dX9_thrown_4 : decode cX9_thrown 4 = .ok (.ireturn, 1) := by decide +kernel
theorem dX9_in_0 : decode cX9_in 0 = .ok (.iload_n 0, 1) := by decide +kernel
theorem dX9_in_1 : decode cX9_in 1 = .ok (.iload_n 1, 1) := by decide +kernel
theorem dX9_in_2 : decode cX9_in 2 = .ok (.if_icmp .lt 12, 3) := by decide +kernel
theorem dX9_in_5 : decode cX9_in 5 = .ok (.iload_n 0, 1) := by decide +kernel
theorem dX9_in_6 : decode cX9_in 6 = .ok (.iload_n 2, 1) := by decide +kernel
theorem dX9_in_7 : decode cX9_in 7 = .ok (.if_icmp .gt 7, 3) := by decide +kernel
theorem dX9_in_10 : decode cX9_in 10 = .ok (.iconst 1, 1) := by decide +kernel
theorem dX9_in_11 : decode cX9_in 11 = .ok (.goto 4, 3) := by decide +kernel
theorem dX9_in_14 : decode cX9_in 14 = .ok (.iconst 0, 1) := by decide +kernel
theorem dX9_in_15 : decode cX9_in 15 = .ok (.ireturn, 1) := by decide +kernel
theorem dX9_isBack_0 : decode cX9_isBack 0 = .ok (.iload_n 1, 1) := by decide +kernel
theorem dX9_isBack_1 : decode cX9_isBack 1 = .ok (.iconst 0, 1) := by decide +kernel
theorem dX9_isBack_2 : decode cX9_isBack 2 = .ok (.aload_n 0, 1) := by decide +kernel
theorem dX9_isBack_3 : decode cX9_isBack 3 = .ok (.getfield 7, 3) := by decide +kernel
theorem dX9_isBack_6 : decode cX9_isBack 6 = .ok (.iconst 1, 1) := by decide +kernel
theorem dX9_isBack_7 : decode cX9_isBack 7 = .ok (.iaload, 1) := by decide +kernel
theorem dX9_isBack_8 : decode cX9_isBack 8 = .ok (.iconst 1, 1) := by decide +kernel
theorem dX9_isBack_9 : decode cX9_isBack 9 = .ok (.isub, 1) := by decide +kernel
theorem dX9_isBack_10 : decode cX9_isBack 10 = .ok (.invokestatic 39, 3) := by decide +kernel
theorem dX9_isBack_13 : decode cX9_isBack 13 = .ok (.ireturn, 1) := by decide +kernel
theorem dX9_isGate_0 : decode cX9_isGate 0 = .ok (.iload_n 0, 1) := by decide +kernel
theorem dX9_isGate_1 : decode cX9_isGate 1 = .ok (.iconst 0, 1) := by decide +kernel
theorem dX9_isGate_2 : decode cX9_isGate 2 = .ok (.iconst 3, 1) := by decide +kernel
theorem dX9_isGate_3 : decode cX9_isGate 3 = .ok (.invokestatic 39, 3) := by decide +kernel
theorem dX9_isGate_6 : decode cX9_isGate 6 = .ok (.ireturn, 1) := by decide +kernel
theorem dX9_isPrime_0 : decode cX9_isPrime 0 = .ok (.iload_n 0, 1) := by decide +kernel
theorem dX9_isPrime_1 : decode cX9_isPrime 1 = .ok (.iconst 3, 1) := by decide +kernel
theorem dX9_isPrime_2 : decode cX9_isPrime 2 = .ok (.if_icmp .lt 9, 3) := by decide +kernel
theorem dX9_isPrime_5 : decode cX9_isPrime 5 = .ok (.iload_n 0, 1) := by decide +kernel
theorem dX9_isPrime_6 : decode cX9_isPrime 6 = .ok (.bipush 97, 2) := by decide +kernel
theorem dX9_isPrime_8 : decode cX9_isPrime 8 = .ok (.if_icmp .le 5, 3) := by decide +kernel
theorem dX9_isPrime_11 : decode cX9_isPrime 11 = .ok (.iconst 0, 1) := by decide +kernel
theorem dX9_isPrime_12 : decode cX9_isPrime 12 = .ok (.ireturn, 1) := by decide +kernel
theorem dX9_isPrime_13 : decode cX9_isPrime 13 = .ok (.iconst 2, 1) := by decide +kernel
theorem dX9_isPrime_14 : decode cX9_isPrime 14 = .ok (.istore_n 1, 1) := by decide +kernel
theorem dX9_isPrime_15 : decode cX9_isPrime 15 = .ok (.iload_n 1, 1) := by decide +kernel
theorem dX9_isPrime_16 : decode cX9_isPrime 16 = .ok (.iload_n 1, 1) := by decide +kernel
theorem dX9_isPrime_17 : decode cX9_isPrime 17 = .ok (.imul, 1) := by decide +kernel
theorem dX9_isPrime_18 : decode cX9_isPrime 18 = .ok (.iload_n 0, 1) := by decide +kernel
theorem dX9_isPrime_19 : decode cX9_isPrime 19 = .ok (.if_icmp .gt 17, 3) := by decide +kernel
theorem dX9_isPrime_22 : decode cX9_isPrime 22 = .ok (.iload_n 0, 1) := by decide +kernel
theorem dX9_isPrime_23 : decode cX9_isPrime 23 = .ok (.iload_n 1, 1) := by decide +kernel
theorem dX9_isPrime_24 : decode cX9_isPrime 24 = .ok (.irem, 1) := by decide +kernel
theorem dX9_isPrime_25 : decode cX9_isPrime 25 = .ok (.ifCond .ne 5, 3) := by decide +kernel
theorem dX9_isPrime_28 : decode cX9_isPrime 28 = .ok (.iconst 0, 1) := by decide +kernel
theorem dX9_isPrime_29 : decode cX9_isPrime 29 = .ok (.ireturn, 1) := by decide +kernel
theorem dX9_isPrime_30 : decode cX9_isPrime 30 = .ok (.iinc 1 1, 3) := by decide +kernel
theorem dX9_isPrime_33 : decode cX9_isPrime 33 = .ok (.goto (-18), 3) := by decide +kernel
theorem dX9_isPrime_36 : decode cX9_isPrime 36 = .ok (.iconst 1, 1) := by decide +kernel
theorem dX9_isPrime_37 : decode cX9_isPrime 37 = .ok (.ireturn, 1) := by decide +kernel
theorem dX9_mix_0 : decode cX9_mix 0 = .ok (.iload_n 0, 1) := by decide +kernel
theorem dX9_mix_1 : decode cX9_mix 1 = .ok (.iload_n 1, 1) := by decide +kernel
theorem dX9_mix_2 : decode cX9_mix 2 = .ok (.imul, 1) := by decide +kernel
theorem dX9_mix_3 : decode cX9_mix 3 = .ok (.istore_n 2, 1) := by decide +kernel
theorem dX9_mix_4 : decode cX9_mix 4 = .ok (.iload_n 2, 1) := by decide +kernel
theorem dX9_mix_5 : decode cX9_mix 5 = .ok (.iload_n 2, 1) := by decide +kernel
theorem dX9_mix_6 : decode cX9_mix 6 = .ok (.bipush 15, 2) := by decide +kernel
theorem dX9_mix_8 : decode cX9_mix 8 = .ok (.iushr, 1) := by decide +kernel
theorem dX9_mix_9 : decode cX9_mix 9 = .ok (.ixor, 1) := by decide +kernel
theorem dX9_mix_10 : decode cX9_mix 10 = .ok (.istore_n 2, 1) := by decide +kernel
theorem dX9_mix_11 : decode cX9_mix 11 = .ok (.iload_n 2, 1) := by decide +kernel
theorem dX9_mix_12 : decode cX9_mix 12 = .ok (.ldc 43, 2) := by decide +kernel
theorem dX9_mix_14 : decode cX9_mix 14 = .ok (.imul, 1) := by decide +kernel
theorem dX9_mix_15 : decode cX9_mix 15 = .ok (.istore_n 2, 1) := by decide +kernel
theorem dX9_mix_16 : decode cX9_mix 16 = .ok (.iload_n 2, 1) := by decide +kernel
theorem dX9_mix_17 : decode cX9_mix 17 = .ok (.iload_n 2, 1) := by decide +kernel
theorem dX9_mix_18 : decode cX9_mix 18 = .ok (.bipush 13, 2) := by decide +kernel
theorem dX9_mix_20 : decode cX9_mix 20 = .ok (.iushr, 1) := by decide +kernel
theorem dX9_mix_21 : decode cX9_mix 21 = .ok (.ixor, 1) := by decide +kernel
theorem dX9_mix_22 : decode cX9_mix 22 = .ok (.istore_n 2, 1) := by decide +kernel
theorem dX9_mix_23 : decode cX9_mix 23 = .ok (.iload_n 2, 1) := by decide +kernel
theorem dX9_mix_24 : decode cX9_mix 24 = .ok (.iconst 1, 1) := by decide +kernel
theorem dX9_mix_25 : decode cX9_mix 25 = .ok (.iushr, 1) := by decide +kernel
theorem dX9_mix_26 : decode cX9_mix 26 = .ok (.ireturn, 1) := by decide +kernel
theorem dX9_stateOf_0 : decode cX9_stateOf 0 = .ok (.aload_n 0, 1) := by decide +kernel
theorem dX9_stateOf_1 : decode cX9_stateOf 1 = .ok (.getfield 7, 3) := by decide +kernel
theorem dX9_stateOf_4 : decode cX9_stateOf 4 = .ok (.bipush 21, 2) := by decide +kernel
theorem dX9_stateOf_6 : decode cX9_stateOf 6 = .ok (.bipush 8, 2) := by decide +kernel
theorem dX9_stateOf_8 : decode cX9_stateOf 8 = .ok (.iload_n 1, 1) := by decide +kernel
theorem dX9_stateOf_9 : decode cX9_stateOf 9 = .ok (.imul, 1) := by decide +kernel
theorem dX9_stateOf_10 : decode cX9_stateOf 10 = .ok (.iadd, 1) := by decide +kernel
theorem dX9_stateOf_11 : decode cX9_stateOf 11 = .ok (.iload_n 2, 1) := by decide +kernel
theorem dX9_stateOf_12 : decode cX9_stateOf 12 = .ok (.iadd, 1) := by decide +kernel
theorem dX9_stateOf_13 : decode cX9_stateOf 13 = .ok (.iaload, 1) := by decide +kernel
theorem dX9_stateOf_14 : decode cX9_stateOf 14 = .ok (.ireturn, 1) := by decide +kernel
theorem dX9_offset_0 : decode cX9_offset 0 = .ok (.aload_n 0, 1) := by decide +kernel
theorem dX9_offset_1 : decode cX9_offset 1 = .ok (.getfield 7, 3) := by decide +kernel
theorem dX9_offset_4 : decode cX9_offset 4 = .ok (.iconst 5, 1) := by decide +kernel
theorem dX9_offset_5 : decode cX9_offset 5 = .ok (.iload_n 1, 1) := by decide +kernel
theorem dX9_offset_6 : decode cX9_offset 6 = .ok (.iadd, 1) := by decide +kernel
theorem dX9_offset_7 : decode cX9_offset 7 = .ok (.iaload, 1) := by decide +kernel
theorem dX9_offset_8 : decode cX9_offset 8 = .ok (.ldc 44, 2) := by decide +kernel
theorem dX9_offset_10 : decode cX9_offset 10 = .ok (.invokestatic 45, 3) := by decide +kernel
theorem dX9_offset_13 : decode cX9_offset 13 = .ok (.iload_n 2, 1) := by decide +kernel
theorem dX9_offset_14 : decode cX9_offset 14 = .ok (.irem, 1) := by decide +kernel
theorem dX9_offset_15 : decode cX9_offset 15 = .ok (.ireturn, 1) := by decide +kernel
theorem dX9_skip_0 : decode cX9_skip 0 = .ok (.aload_n 0, 1) := by decide +kernel
theorem dX9_skip_1 : decode cX9_skip 1 = .ok (.getfield 7, 3) := by decide +kernel
theorem dX9_skip_4 : decode cX9_skip 4 = .ok (.iconst 5, 1) := by decide +kernel
theorem dX9_skip_5 : decode cX9_skip 5 = .ok (.iload_n 1, 1) := by decide +kernel
theorem dX9_skip_6 : decode cX9_skip 6 = .ok (.iadd, 1) := by decide +kernel
theorem dX9_skip_7 : decode cX9_skip 7 = .ok (.iaload, 1) := by decide +kernel
theorem dX9_skip_8 : decode cX9_skip 8 = .ok (.ldc 49, 2) := by decide +kernel
theorem dX9_skip_10 : decode cX9_skip 10 = .ok (.invokestatic 45, 3) := by decide +kernel
theorem dX9_skip_13 : decode cX9_skip 13 = .ok (.iload_n 2, 1) := by decide +kernel
theorem dX9_skip_14 : decode cX9_skip 14 = .ok (.iconst 1, 1) := by decide +kernel
theorem dX9_skip_15 : decode cX9_skip 15 = .ok (.isub, 1) := by decide +kernel
theorem dX9_skip_16 : decode cX9_skip 16 = .ok (.irem, 1) := by decide +kernel
theorem dX9_skip_17 : decode cX9_skip 17 = .ok (.iconst 1, 1) := by decide +kernel
theorem dX9_skip_18 : decode cX9_skip 18 = .ok (.iadd, 1) := by decide +kernel
theorem dX9_skip_19 : decode cX9_skip 19 = .ok (.ireturn, 1) := by decide +kernel
theorem dX9_sees_0 : decode cX9_sees 0 = .ok (.iconst 0, 1) := by decide +kernel
theorem dX9_sees_1 : decode cX9_sees 1 = .ok (.istore_n 2, 1) := by decide +kernel
theorem dX9_sees_2 : decode cX9_sees 2 = .ok (.iload_n 2, 1) := by decide +kernel
theorem dX9_sees_3 : decode cX9_sees 3 = .ok (.bipush 8, 2) := by decide +kernel
theorem dX9_sees_5 : decode cX9_sees 5 = .ok (.if_icmp .ge 40, 3) := by decide +kernel
theorem dX9_sees_8 : decode cX9_sees 8 = .ok (.aload_n 0, 1) := by decide +kernel
theorem dX9_sees_9 : decode cX9_sees 9 = .ok (.getfield 22, 3) := by decide +kernel
theorem dX9_sees_12 : decode cX9_sees 12 = .ok (.iload_n 2, 1) := by decide +kernel
theorem dX9_sees_13 : decode cX9_sees 13 = .ok (.iload_n 2, 1) := by decide +kernel
theorem dX9_sees_14 : decode cX9_sees 14 = .ok (.aload_n 0, 1) := by decide +kernel
theorem dX9_sees_15 : decode cX9_sees 15 = .ok (.getfield 7, 3) := by decide +kernel
theorem dX9_sees_18 : decode cX9_sees 18 = .ok (.iconst 1, 1) := by decide +kernel
theorem dX9_sees_19 : decode cX9_sees 19 = .ok (.iaload, 1) := by decide +kernel
theorem dX9_sees_20 : decode cX9_sees 20 = .ok (.if_icmp .ge 17, 3) := by decide +kernel
theorem dX9_sees_23 : decode cX9_sees 23 = .ok (.aload_n 0, 1) := by decide +kernel
theorem dX9_sees_24 : decode cX9_sees 24 = .ok (.iload_n 1, 1) := by decide +kernel
theorem dX9_sees_25 : decode cX9_sees 25 = .ok (.iload_n 2, 1) := by decide +kernel
theorem dX9_sees_26 : decode cX9_sees 26 = .ok (.invokevirtual 50, 3) := by decide +kernel
theorem dX9_sees_29 : decode cX9_sees 29 = .ok (.iconst 1, 1) := by decide +kernel
theorem dX9_sees_30 : decode cX9_sees 30 = .ok (.if_icmp .ne 7, 3) := by decide +kernel
theorem dX9_sees_33 : decode cX9_sees 33 = .ok (.iconst 1, 1) := by decide +kernel
theorem dX9_sees_34 : decode cX9_sees 34 = .ok (.goto 4, 3) := by decide +kernel
theorem dX9_sees_37 : decode cX9_sees 37 = .ok (.iconst 0, 1) := by decide +kernel
theorem dX9_sees_38 : decode cX9_sees 38 = .ok (.bastore, 1) := by decide +kernel
theorem dX9_sees_39 : decode cX9_sees 39 = .ok (.iinc 2 1, 3) := by decide +kernel
theorem dX9_sees_42 : decode cX9_sees 42 = .ok (.goto (-40), 3) := by decide +kernel
theorem dX9_sees_45 : decode cX9_sees 45 = .ok (.return_, 1) := by decide +kernel
theorem dX9_greatest_0 : decode cX9_greatest 0 = .ok (.iconst 0, 1) := by decide +kernel
theorem dX9_greatest_1 : decode cX9_greatest 1 = .ok (.istore_n 1, 1) := by decide +kernel
theorem dX9_greatest_2 : decode cX9_greatest 2 = .ok (.iconst 0, 1) := by decide +kernel
theorem dX9_greatest_3 : decode cX9_greatest 3 = .ok (.istore_n 2, 1) := by decide +kernel
theorem dX9_greatest_4 : decode cX9_greatest 4 = .ok (.iload_n 2, 1) := by decide +kernel
theorem dX9_greatest_5 : decode cX9_greatest 5 = .ok (.bipush 8, 2) := by decide +kernel
theorem dX9_greatest_7 : decode cX9_greatest 7 = .ok (.if_icmp .ge 45, 3) := by decide +kernel
theorem dX9_greatest_10 : decode cX9_greatest 10 = .ok (.aload_n 0, 1) := by decide +kernel
theorem dX9_greatest_11 : decode cX9_greatest 11 = .ok (.getfield 22, 3) := by decide +kernel
theorem dX9_greatest_14 : decode cX9_greatest 14 = .ok (.iload_n 2, 1) := by decide +kernel
theorem dX9_greatest_15 : decode cX9_greatest 15 = .ok (.baload, 1) := by decide +kernel
theorem dX9_greatest_16 : decode cX9_greatest 16 = .ok (.ifCond .eq 28, 3) := by decide +kernel
theorem dX9_greatest_19 : decode cX9_greatest 19 = .ok (.aload_n 0, 1) := by decide +kernel
theorem dX9_greatest_20 : decode cX9_greatest 20 = .ok (.getfield 7, 3) := by decide +kernel
theorem dX9_greatest_23 : decode cX9_greatest 23 = .ok (.bipush 13, 2) := by decide +kernel
theorem dX9_greatest_25 : decode cX9_greatest 25 = .ok (.iload_n 2, 1) := by decide +kernel
theorem dX9_greatest_26 : decode cX9_greatest 26 = .ok (.iadd, 1) := by decide +kernel
theorem dX9_greatest_27 : decode cX9_greatest 27 = .ok (.iaload, 1) := by decide +kernel
theorem dX9_greatest_28 : decode cX9_greatest 28 = .ok (.iload_n 1, 1) := by decide +kernel
theorem dX9_greatest_29 : decode cX9_greatest 29 = .ok (.if_icmp .le 15, 3) := by decide +kernel
theorem dX9_greatest_32 : decode cX9_greatest 32 = .ok (.aload_n 0, 1) := by decide +kernel
theorem dX9_greatest_33 : decode cX9_greatest 33 = .ok (.getfield 7, 3) := by decide +kernel
theorem dX9_greatest_36 : decode cX9_greatest 36 = .ok (.bipush 13, 2) := by decide +kernel
theorem dX9_greatest_38 : decode cX9_greatest 38 = .ok (.iload_n 2, 1) := by decide +kernel
theorem dX9_greatest_39 : decode cX9_greatest 39 = .ok (.iadd, 1) := by decide +kernel
theorem dX9_greatest_40 : decode cX9_greatest 40 = .ok (.iaload, 1) := by decide +kernel
theorem dX9_greatest_41 : decode cX9_greatest 41 = .ok (.goto 4, 3) := by decide +kernel
theorem dX9_greatest_44 : decode cX9_greatest 44 = .ok (.iload_n 1, 1) := by decide +kernel
theorem dX9_greatest_45 : decode cX9_greatest 45 = .ok (.istore_n 1, 1) := by decide +kernel
theorem dX9_greatest_46 : decode cX9_greatest 46 = .ok (.iinc 2 1, 3) := by decide +kernel
theorem dX9_greatest_49 : decode cX9_greatest 49 = .ok (.goto (-45), 3) := by decide +kernel
theorem dX9_greatest_52 : decode cX9_greatest 52 = .ok (.iload_n 1, 1) := by decide +kernel
theorem dX9_greatest_53 : decode cX9_greatest 53 = .ok (.ireturn, 1) := by decide +kernel
theorem dX9_takes_0 : decode cX9_takes 0 = .ok (.aload_n 0, 1) := by decide +kernel
theorem dX9_takes_1 : decode cX9_takes 1 = .ok (.iload_n 1, 1) := by decide +kernel
theorem dX9_takes_2 : decode cX9_takes 2 = .ok (.iload_n 2, 1) := by decide +kernel
theorem dX9_takes_3 : decode cX9_takes 3 = .ok (.invokevirtual 53, 3) := by decide +kernel
theorem dX9_takes_6 : decode cX9_takes 6 = .ok (.aload_n 0, 1) := by decide +kernel
theorem dX9_takes_7 : decode cX9_takes 7 = .ok (.getfield 29, 3) := by decide +kernel
theorem dX9_takes_10 : decode cX9_takes 10 = .ok (.iload_n 1, 1) := by decide +kernel
theorem dX9_takes_11 : decode cX9_takes 11 = .ok (.iaload, 1) := by decide +kernel
theorem dX9_takes_12 : decode cX9_takes 12 = .ok (.aload_n 0, 1) := by decide +kernel
theorem dX9_takes_13 : decode cX9_takes 13 = .ok (.iload_n 1, 1) := by decide +kernel
theorem dX9_takes_14 : decode cX9_takes 14 = .ok (.iload_n 2, 1) := by decide +kernel
theorem dX9_takes_15 : decode cX9_takes 15 = .ok (.invokevirtual 56, 3) := by decide +kernel
theorem dX9_takes_18 : decode cX9_takes 18 = .ok (.imul, 1) := by decide +kernel
theorem dX9_takes_19 : decode cX9_takes 19 = .ok (.iadd, 1) := by decide +kernel
theorem dX9_takes_20 : decode cX9_takes 20 = .ok (.iload_n 2, 1) := by decide +kernel
theorem dX9_takes_21 : decode cX9_takes 21 = .ok (.irem, 1) := by decide +kernel
theorem dX9_takes_22 : decode cX9_takes 22 = .ok (.istore_n 3, 1) := by decide +kernel
theorem dX9_takes_23 : decode cX9_takes 23 = .ok (.aload_n 0, 1) := by decide +kernel
theorem dX9_takes_24 : decode cX9_takes 24 = .ok (.getfield 16, 3) := by decide +kernel
theorem dX9_takes_27 : decode cX9_takes 27 = .ok (.iload_n 3, 1) := by decide +kernel
theorem dX9_takes_28 : decode cX9_takes 28 = .ok (.iaload, 1) := by decide +kernel
theorem dX9_takes_29 : decode cX9_takes 29 = .ok (.iconst (-1), 1) := by decide +kernel
theorem dX9_takes_30 : decode cX9_takes 30 = .ok (.if_icmp .eq 39, 3) := by decide +kernel
theorem dX9_takes_33 : decode cX9_takes 33 = .ok (.aload_n 0, 1) := by decide +kernel
theorem dX9_takes_34 : decode cX9_takes 34 = .ok (.getfield 29, 3) := by decide +kernel
theorem dX9_takes_37 : decode cX9_takes 37 = .ok (.iload_n 1, 1) := by decide +kernel
theorem dX9_takes_38 : decode cX9_takes 38 = .ok (.dup2, 1) := by decide +kernel
theorem dX9_takes_39 : decode cX9_takes 39 = .ok (.iaload, 1) := by decide +kernel
theorem dX9_takes_40 : decode cX9_takes 40 = .ok (.iconst 1, 1) := by decide +kernel
theorem dX9_takes_41 : decode cX9_takes 41 = .ok (.iadd, 1) := by decide +kernel
theorem dX9_takes_42 : decode cX9_takes 42 = .ok (.iastore, 1) := by decide +kernel
theorem dX9_takes_43 : decode cX9_takes 43 = .ok (.aload_n 0, 1) := by decide +kernel
theorem dX9_takes_44 : decode cX9_takes 44 = .ok (.iload_n 1, 1) := by decide +kernel
theorem dX9_takes_45 : decode cX9_takes 45 = .ok (.iload_n 2, 1) := by decide +kernel
theorem dX9_takes_46 : decode cX9_takes 46 = .ok (.invokevirtual 53, 3) := by decide +kernel
theorem dX9_takes_49 : decode cX9_takes 49 = .ok (.aload_n 0, 1) := by decide +kernel
theorem dX9_takes_50 : decode cX9_takes 50 = .ok (.getfield 29, 3) := by decide +kernel
theorem dX9_takes_53 : decode cX9_takes 53 = .ok (.iload_n 1, 1) := by decide +kernel
theorem dX9_takes_54 : decode cX9_takes 54 = .ok (.iaload, 1) := by decide +kernel
theorem dX9_takes_55 : decode cX9_takes 55 = .ok (.aload_n 0, 1) := by decide +kernel
theorem dX9_takes_56 : decode cX9_takes 56 = .ok (.iload_n 1, 1) := by decide +kernel
theorem dX9_takes_57 : decode cX9_takes 57 = .ok (.iload_n 2, 1) := by decide +kernel
theorem dX9_takes_58 : decode cX9_takes 58 = .ok (.invokevirtual 56, 3) := by decide +kernel
theorem dX9_takes_61 : decode cX9_takes 61 = .ok (.imul, 1) := by decide +kernel
theorem dX9_takes_62 : decode cX9_takes 62 = .ok (.iadd, 1) := by decide +kernel
theorem dX9_takes_63 : decode cX9_takes 63 = .ok (.iload_n 2, 1) := by decide +kernel
theorem dX9_takes_64 : decode cX9_takes 64 = .ok (.irem, 1) := by decide +kernel
theorem dX9_takes_65 : decode cX9_takes 65 = .ok (.istore_n 3, 1) := by decide +kernel
theorem dX9_takes_66 : decode cX9_takes 66 = .ok (.goto (-43), 3) := by decide +kernel
theorem dX9_takes_69 : decode cX9_takes 69 = .ok (.aload_n 0, 1) := by decide +kernel
theorem dX9_takes_70 : decode cX9_takes 70 = .ok (.getfield 16, 3) := by decide +kernel
theorem dX9_takes_73 : decode cX9_takes 73 = .ok (.iload_n 3, 1) := by decide +kernel
theorem dX9_takes_74 : decode cX9_takes 74 = .ok (.iload_n 1, 1) := by decide +kernel
theorem dX9_takes_75 : decode cX9_takes 75 = .ok (.iastore, 1) := by decide +kernel
theorem dX9_takes_76 : decode cX9_takes 76 = .ok (.return_, 1) := by decide +kernel
theorem dX9_lays_0 : decode cX9_lays 0 = .ok (.iconst 0, 1) := by decide +kernel
theorem dX9_lays_1 : decode cX9_lays 1 = .ok (.istore_n 2, 1) := by decide +kernel
theorem dX9_lays_2 : decode cX9_lays 2 = .ok (.iload_n 2, 1) := by decide +kernel
theorem dX9_lays_3 : decode cX9_lays 3 = .ok (.iload_n 1, 1) := by decide +kernel
theorem dX9_lays_4 : decode cX9_lays 4 = .ok (.if_icmp .ge 16, 3) := by decide +kernel
theorem dX9_lays_7 : decode cX9_lays 7 = .ok (.aload_n 0, 1) := by decide +kernel
theorem dX9_lays_8 : decode cX9_lays 8 = .ok (.getfield 16, 3) := by decide +kernel
theorem dX9_lays_11 : decode cX9_lays 11 = .ok (.iload_n 2, 1) := by decide +kernel
theorem dX9_lays_12 : decode cX9_lays 12 = .ok (.iconst (-1), 1) := by decide +kernel
theorem dX9_lays_13 : decode cX9_lays 13 = .ok (.iastore, 1) := by decide +kernel
theorem dX9_lays_14 : decode cX9_lays 14 = .ok (.iinc 2 1, 3) := by decide +kernel
theorem dX9_lays_17 : decode cX9_lays 17 = .ok (.goto (-15), 3) := by decide +kernel
theorem dX9_lays_20 : decode cX9_lays 20 = .ok (.iconst 0, 1) := by decide +kernel
theorem dX9_lays_21 : decode cX9_lays 21 = .ok (.istore_n 2, 1) := by decide +kernel
theorem dX9_lays_22 : decode cX9_lays 22 = .ok (.iload_n 2, 1) := by decide +kernel
theorem dX9_lays_23 : decode cX9_lays 23 = .ok (.bipush 8, 2) := by decide +kernel
theorem dX9_lays_25 : decode cX9_lays 25 = .ok (.if_icmp .ge 23, 3) := by decide +kernel
theorem dX9_lays_28 : decode cX9_lays 28 = .ok (.aload_n 0, 1) := by decide +kernel
theorem dX9_lays_29 : decode cX9_lays 29 = .ok (.getfield 26, 3) := by decide +kernel
theorem dX9_lays_32 : decode cX9_lays 32 = .ok (.iload_n 2, 1) := by decide +kernel
theorem dX9_lays_33 : decode cX9_lays 33 = .ok (.iconst 0, 1) := by decide +kernel
theorem dX9_lays_34 : decode cX9_lays 34 = .ok (.iastore, 1) := by decide +kernel
theorem dX9_lays_35 : decode cX9_lays 35 = .ok (.aload_n 0, 1) := by decide +kernel
theorem dX9_lays_36 : decode cX9_lays 36 = .ok (.getfield 29, 3) := by decide +kernel
theorem dX9_lays_39 : decode cX9_lays 39 = .ok (.iload_n 2, 1) := by decide +kernel
theorem dX9_lays_40 : decode cX9_lays 40 = .ok (.iconst 0, 1) := by decide +kernel
theorem dX9_lays_41 : decode cX9_lays 41 = .ok (.iastore, 1) := by decide +kernel
theorem dX9_lays_42 : decode cX9_lays 42 = .ok (.iinc 2 1, 3) := by decide +kernel
theorem dX9_lays_45 : decode cX9_lays 45 = .ok (.goto (-23), 3) := by decide +kernel
theorem dX9_lays_48 : decode cX9_lays 48 = .ok (.aload_n 0, 1) := by decide +kernel
theorem dX9_lays_49 : decode cX9_lays 49 = .ok (.invokevirtual 59, 3) := by decide +kernel
theorem dX9_lays_52 : decode cX9_lays 52 = .ok (.istore_n 2, 1) := by decide +kernel
theorem dX9_lays_53 : decode cX9_lays 53 = .ok (.iload_n 2, 1) := by decide +kernel
theorem dX9_lays_54 : decode cX9_lays 54 = .ok (.ifCond .ne 7, 3) := by decide +kernel
theorem dX9_lays_57 : decode cX9_lays 57 = .ok (.iconst 0, 1) := by decide +kernel
theorem dX9_lays_58 : decode cX9_lays 58 = .ok (.goto 4, 3) := by decide +kernel
theorem dX9_lays_61 : decode cX9_lays 61 = .ok (.iload_n 1, 1) := by decide +kernel
theorem dX9_lays_62 : decode cX9_lays 62 = .ok (.istore_n 3, 1) := by decide +kernel
theorem dX9_lays_63 : decode cX9_lays 63 = .ok (.iconst 0, 1) := by decide +kernel
theorem dX9_lays_64 : decode cX9_lays 64 = .ok (.istore 4, 2) := by decide +kernel
theorem dX9_lays_66 : decode cX9_lays 66 = .ok (.iload_n 3, 1) := by decide +kernel
theorem dX9_lays_67 : decode cX9_lays 67 = .ok (.ifCond .le 77, 3) := by decide +kernel
theorem dX9_lays_70 : decode cX9_lays 70 = .ok (.aload_n 0, 1) := by decide +kernel
theorem dX9_lays_71 : decode cX9_lays 71 = .ok (.getfield 22, 3) := by decide +kernel
theorem dX9_lays_74 : decode cX9_lays 74 = .ok (.iload 4, 2) := by decide +kernel
theorem dX9_lays_76 : decode cX9_lays 76 = .ok (.baload, 1) := by decide +kernel
theorem dX9_lays_77 : decode cX9_lays 77 = .ok (.ifCond .eq 55, 3) := by decide +kernel
theorem dX9_lays_80 : decode cX9_lays 80 = .ok (.aload_n 0, 1) := by decide +kernel
theorem dX9_lays_81 : decode cX9_lays 81 = .ok (.getfield 26, 3) := by decide +kernel
theorem dX9_lays_84 : decode cX9_lays 84 = .ok (.iload 4, 2) := by decide +kernel
theorem dX9_lays_86 : decode cX9_lays 86 = .ok (.dup2, 1) := by decide +kernel
theorem dX9_lays_87 : decode cX9_lays 87 = .ok (.iaload, 1) := by decide +kernel
theorem dX9_lays_88 : decode cX9_lays 88 = .ok (.aload_n 0, 1) := by decide +kernel
theorem dX9_lays_89 : decode cX9_lays 89 = .ok (.getfield 7, 3) := by decide +kernel
theorem dX9_lays_92 : decode cX9_lays 92 = .ok (.bipush 13, 2) := by decide +kernel
theorem dX9_lays_94 : decode cX9_lays 94 = .ok (.iload 4, 2) := by decide +kernel
theorem dX9_lays_96 : decode cX9_lays 96 = .ok (.iadd, 1) := by decide +kernel
theorem dX9_lays_97 : decode cX9_lays 97 = .ok (.iaload, 1) := by decide +kernel
theorem dX9_lays_98 : decode cX9_lays 98 = .ok (.iadd, 1) := by decide +kernel
theorem dX9_lays_99 : decode cX9_lays 99 = .ok (.iastore, 1) := by decide +kernel
theorem dX9_lays_100 : decode cX9_lays 100 = .ok (.aload_n 0, 1) := by decide +kernel
theorem dX9_lays_101 : decode cX9_lays 101 = .ok (.getfield 26, 3) := by decide +kernel
theorem dX9_lays_104 : decode cX9_lays 104 = .ok (.iload 4, 2) := by decide +kernel
theorem dX9_lays_106 : decode cX9_lays 106 = .ok (.iaload, 1) := by decide +kernel
theorem dX9_lays_107 : decode cX9_lays 107 = .ok (.iload_n 2, 1) := by decide +kernel
theorem dX9_lays_108 : decode cX9_lays 108 = .ok (.if_icmp .lt 24, 3) := by decide +kernel
theorem dX9_lays_111 : decode cX9_lays 111 = .ok (.aload_n 0, 1) := by decide +kernel
theorem dX9_lays_112 : decode cX9_lays 112 = .ok (.getfield 26, 3) := by decide +kernel
theorem dX9_lays_115 : decode cX9_lays 115 = .ok (.iload 4, 2) := by decide +kernel
theorem dX9_lays_117 : decode cX9_lays 117 = .ok (.dup2, 1) := by decide +kernel
theorem dX9_lays_118 : decode cX9_lays 118 = .ok (.iaload, 1) := by decide +kernel
theorem dX9_lays_119 : decode cX9_lays 119 = .ok (.iload_n 2, 1) := by decide +kernel
theorem dX9_lays_120 : decode cX9_lays 120 = .ok (.isub, 1) := by decide +kernel
theorem dX9_lays_121 : decode cX9_lays 121 = .ok (.iastore, 1) := by decide +kernel
theorem dX9_lays_122 : decode cX9_lays 122 = .ok (.aload_n 0, 1) := by decide +kernel
theorem dX9_lays_123 : decode cX9_lays 123 = .ok (.iload 4, 2) := by decide +kernel
theorem dX9_lays_125 : decode cX9_lays 125 = .ok (.iload_n 1, 1) := by decide +kernel
theorem dX9_lays_126 : decode cX9_lays 126 = .ok (.invokevirtual 63, 3) := by decide +kernel
theorem dX9_lays_129 : decode cX9_lays 129 = .ok (.iinc 3 (-1), 3) := by decide +kernel
theorem dX9_lays_132 : decode cX9_lays 132 = .ok (.iload 4, 2) := by decide +kernel
theorem dX9_lays_134 : decode cX9_lays 134 = .ok (.iconst 1, 1) := by decide +kernel
theorem dX9_lays_135 : decode cX9_lays 135 = .ok (.iadd, 1) := by decide +kernel
theorem dX9_lays_136 : decode cX9_lays 136 = .ok (.bipush 8, 2) := by decide +kernel
theorem dX9_lays_138 : decode cX9_lays 138 = .ok (.irem, 1) := by decide +kernel
theorem dX9_lays_139 : decode cX9_lays 139 = .ok (.istore 4, 2) := by decide +kernel
theorem dX9_lays_141 : decode cX9_lays 141 = .ok (.goto (-75), 3) := by decide +kernel
theorem dX9_lays_144 : decode cX9_lays 144 = .ok (.return_, 1) := by decide +kernel
theorem dX9_laysGate_0 : decode cX9_laysGate 0 = .ok (.aload_n 0, 1) := by decide +kernel
theorem dX9_laysGate_1 : decode cX9_laysGate 1 = .ok (.iload_n 1, 1) := by decide +kernel
theorem dX9_laysGate_2 : decode cX9_laysGate 2 = .ok (.invokevirtual 67, 3) := by decide +kernel
theorem dX9_laysGate_5 : decode cX9_laysGate 5 = .ok (.aload_n 0, 1) := by decide +kernel
theorem dX9_laysGate_6 : decode cX9_laysGate 6 = .ok (.aload_n 0, 1) := by decide +kernel
theorem dX9_laysGate_7 : decode cX9_laysGate 7 = .ok (.getfield 7, 3) := by decide +kernel
theorem dX9_laysGate_10 : decode cX9_laysGate 10 = .ok (.iconst 0, 1) := by decide +kernel
theorem dX9_laysGate_11 : decode cX9_laysGate 11 = .ok (.iaload, 1) := by decide +kernel
theorem dX9_laysGate_12 : decode cX9_laysGate 12 = .ok (.invokevirtual 71, 3) := by decide +kernel
theorem dX9_laysGate_15 : decode cX9_laysGate 15 = .ok (.return_, 1) := by decide +kernel
theorem dX9_copiesLaid_0 : decode cX9_copiesLaid 0 = .ok (.iconst 0, 1) := by decide +kernel
theorem dX9_copiesLaid_1 : decode cX9_copiesLaid 1 = .ok (.istore_n 1, 1) := by decide +kernel
theorem dX9_copiesLaid_2 : decode cX9_copiesLaid 2 = .ok (.iload_n 1, 1) := by decide +kernel
theorem dX9_copiesLaid_3 : decode cX9_copiesLaid 3 = .ok (.aload_n 0, 1) := by decide +kernel
theorem dX9_copiesLaid_4 : decode cX9_copiesLaid 4 = .ok (.getfield 7, 3) := by decide +kernel
theorem dX9_copiesLaid_7 : decode cX9_copiesLaid 7 = .ok (.iconst 0, 1) := by decide +kernel
theorem dX9_copiesLaid_8 : decode cX9_copiesLaid 8 = .ok (.iaload, 1) := by decide +kernel
theorem dX9_copiesLaid_9 : decode cX9_copiesLaid 9 = .ok (.if_icmp .ge 21, 3) := by decide +kernel
theorem dX9_copiesLaid_12 : decode cX9_copiesLaid 12 = .ok (.aload_n 0, 1) := by decide +kernel
theorem dX9_copiesLaid_13 : decode cX9_copiesLaid 13 = .ok (.getfield 19, 3) := by decide +kernel
theorem dX9_copiesLaid_16 : decode cX9_copiesLaid 16 = .ok (.iload_n 1, 1) := by decide +kernel
theorem dX9_copiesLaid_17 : decode cX9_copiesLaid 17 = .ok (.aload_n 0, 1) := by decide +kernel
theorem dX9_copiesLaid_18 : decode cX9_copiesLaid 18 = .ok (.getfield 16, 3) := by decide +kernel
theorem dX9_copiesLaid_21 : decode cX9_copiesLaid 21 = .ok (.iload_n 1, 1) := by decide +kernel
theorem dX9_copiesLaid_22 : decode cX9_copiesLaid 22 = .ok (.iaload, 1) := by decide +kernel
theorem dX9_copiesLaid_23 : decode cX9_copiesLaid 23 = .ok (.iastore, 1) := by decide +kernel
theorem dX9_copiesLaid_24 : decode cX9_copiesLaid 24 = .ok (.iinc 1 1, 3) := by decide +kernel
theorem dX9_copiesLaid_27 : decode cX9_copiesLaid 27 = .ok (.goto (-25), 3) := by decide +kernel
theorem dX9_copiesLaid_30 : decode cX9_copiesLaid 30 = .ok (.return_, 1) := by decide +kernel
theorem dX9_flowOf_0 : decode cX9_flowOf 0 = .ok (.aload_n 0, 1) := by decide +kernel
theorem dX9_flowOf_1 : decode cX9_flowOf 1 = .ok (.getfield 7, 3) := by decide +kernel
theorem dX9_flowOf_4 : decode cX9_flowOf 4 = .ok (.bipush 57, 2) := by decide +kernel
theorem dX9_flowOf_6 : decode cX9_flowOf 6 = .ok (.bipush 16, 2) := by decide +kernel
theorem dX9_flowOf_8 : decode cX9_flowOf 8 = .ok (.iload_n 1, 1) := by decide +kernel
theorem dX9_flowOf_9 : decode cX9_flowOf 9 = .ok (.imul, 1) := by decide +kernel
theorem dX9_flowOf_10 : decode cX9_flowOf 10 = .ok (.iadd, 1) := by decide +kernel
theorem dX9_flowOf_11 : decode cX9_flowOf 11 = .ok (.iload_n 2, 1) := by decide +kernel
theorem dX9_flowOf_12 : decode cX9_flowOf 12 = .ok (.iadd, 1) := by decide +kernel
theorem dX9_flowOf_13 : decode cX9_flowOf 13 = .ok (.iaload, 1) := by decide +kernel
theorem dX9_flowOf_14 : decode cX9_flowOf 14 = .ok (.ireturn, 1) := by decide +kernel
theorem dX9_toOf_0 : decode cX9_toOf 0 = .ok (.aload_n 0, 1) := by decide +kernel
theorem dX9_toOf_1 : decode cX9_toOf 1 = .ok (.getfield 7, 3) := by decide +kernel
theorem dX9_toOf_4 : decode cX9_toOf 4 = .ok (.bipush 121, 2) := by decide +kernel
theorem dX9_toOf_6 : decode cX9_toOf 6 = .ok (.bipush 16, 2) := by decide +kernel
theorem dX9_toOf_8 : decode cX9_toOf 8 = .ok (.iload_n 1, 1) := by decide +kernel
theorem dX9_toOf_9 : decode cX9_toOf 9 = .ok (.imul, 1) := by decide +kernel
theorem dX9_toOf_10 : decode cX9_toOf 10 = .ok (.iadd, 1) := by decide +kernel
theorem dX9_toOf_11 : decode cX9_toOf 11 = .ok (.iload_n 2, 1) := by decide +kernel
theorem dX9_toOf_12 : decode cX9_toOf 12 = .ok (.iadd, 1) := by decide +kernel
theorem dX9_toOf_13 : decode cX9_toOf 13 = .ok (.iaload, 1) := by decide +kernel
theorem dX9_toOf_14 : decode cX9_toOf 14 = .ok (.ireturn, 1) := by decide +kernel
theorem dX9_whenOf_0 : decode cX9_whenOf 0 = .ok (.aload_n 0, 1) := by decide +kernel
theorem dX9_whenOf_1 : decode cX9_whenOf 1 = .ok (.getfield 7, 3) := by decide +kernel
theorem dX9_whenOf_4 : decode cX9_whenOf 4 = .ok (.sipush 185, 3) := by decide +kernel
theorem dX9_whenOf_7 : decode cX9_whenOf 7 = .ok (.bipush 16, 2) := by decide +kernel
theorem dX9_whenOf_9 : decode cX9_whenOf 9 = .ok (.iload_n 1, 1) := by decide +kernel
theorem dX9_whenOf_10 : decode cX9_whenOf 10 = .ok (.imul, 1) := by decide +kernel
theorem dX9_whenOf_11 : decode cX9_whenOf 11 = .ok (.iadd, 1) := by decide +kernel
theorem dX9_whenOf_12 : decode cX9_whenOf 12 = .ok (.iload_n 2, 1) := by decide +kernel
theorem dX9_whenOf_13 : decode cX9_whenOf 13 = .ok (.iadd, 1) := by decide +kernel
theorem dX9_whenOf_14 : decode cX9_whenOf 14 = .ok (.iaload, 1) := by decide +kernel
theorem dX9_whenOf_15 : decode cX9_whenOf 15 = .ok (.ireturn, 1) := by decide +kernel
theorem dX9_placeOf_0 : decode cX9_placeOf 0 = .ok (.iconst 0, 1) := by decide +kernel
theorem dX9_placeOf_1 : decode cX9_placeOf 1 = .ok (.istore_n 3, 1) := by decide +kernel
theorem dX9_placeOf_2 : decode cX9_placeOf 2 = .ok (.iload_n 3, 1) := by decide +kernel
theorem dX9_placeOf_3 : decode cX9_placeOf 3 = .ok (.aload_n 0, 1) := by decide +kernel
theorem dX9_placeOf_4 : decode cX9_placeOf 4 = .ok (.getfield 7, 3) := by decide +kernel
theorem dX9_placeOf_7 : decode cX9_placeOf 7 = .ok (.bipush 53, 2) := by decide +kernel
theorem dX9_placeOf_9 : decode cX9_placeOf 9 = .ok (.iload_n 1, 1) := by decide +kernel
end
section
theorem dX9_placeOf_10 : decode cX9_placeOf 10 = .ok (.iadd, 1) := by decide +kernel
theorem dX9_placeOf_11 : decode cX9_placeOf 11 = .ok (.iaload, 1) := by decide +kernel
theorem dX9_placeOf_12 : decode cX9_placeOf 12 = .ok (.if_icmp .ge 21, 3) := by decide +kernel
theorem dX9_placeOf_15 : decode cX9_placeOf 15 = .ok (.aload_n 0, 1) := by decide +kernel
theorem dX9_placeOf_16 : decode cX9_placeOf 16 = .ok (.iload_n 1, 1) := by decide +kernel
theorem dX9_placeOf_17 : decode cX9_placeOf 17 = .ok (.iload_n 3, 1) := by decide +kernel
theorem dX9_placeOf_18 : decode cX9_placeOf 18 = .ok (.invokevirtual 74, 3) := by decide +kernel
theorem dX9_placeOf_21 : decode cX9_placeOf 21 = .ok (.iload_n 2, 1) := by decide +kernel
theorem dX9_placeOf_22 : decode cX9_placeOf 22 = .ok (.if_icmp .ne 5, 3) := by decide +kernel
theorem dX9_placeOf_25 : decode cX9_placeOf 25 = .ok (.iload_n 3, 1) := by decide +kernel
theorem dX9_placeOf_26 : decode cX9_placeOf 26 = .ok (.ireturn, 1) := by decide +kernel
theorem dX9_placeOf_27 : decode cX9_placeOf 27 = .ok (.iinc 3 1, 3) := by decide +kernel
theorem dX9_placeOf_30 : decode cX9_placeOf 30 = .ok (.goto (-28), 3) := by decide +kernel
theorem dX9_placeOf_33 : decode cX9_placeOf 33 = .ok (.iconst (-1), 1) := by decide +kernel
theorem dX9_placeOf_34 : decode cX9_placeOf 34 = .ok (.ireturn, 1) := by decide +kernel
theorem dX9_forgets_0 : decode cX9_forgets 0 = .ok (.aload_n 0, 1) := by decide +kernel
theorem dX9_forgets_1 : decode cX9_forgets 1 = .ok (.getfield 7, 3) := by decide +kernel
theorem dX9_forgets_4 : decode cX9_forgets 4 = .ok (.bipush 53, 2) := by decide +kernel
theorem dX9_forgets_6 : decode cX9_forgets 6 = .ok (.iload_n 1, 1) := by decide +kernel
theorem dX9_forgets_7 : decode cX9_forgets 7 = .ok (.iadd, 1) := by decide +kernel
theorem dX9_forgets_8 : decode cX9_forgets 8 = .ok (.dup2, 1) := by decide +kernel
theorem dX9_forgets_9 : decode cX9_forgets 9 = .ok (.iaload, 1) := by decide +kernel
theorem dX9_forgets_10 : decode cX9_forgets 10 = .ok (.iconst 1, 1) := by decide +kernel
theorem dX9_forgets_11 : decode cX9_forgets 11 = .ok (.isub, 1) := by decide +kernel
theorem dX9_forgets_12 : decode cX9_forgets 12 = .ok (.iastore, 1) := by decide +kernel
theorem dX9_forgets_13 : decode cX9_forgets 13 = .ok (.aload_n 0, 1) := by decide +kernel
theorem dX9_forgets_14 : decode cX9_forgets 14 = .ok (.getfield 7, 3) := by decide +kernel
theorem dX9_forgets_17 : decode cX9_forgets 17 = .ok (.bipush 53, 2) := by decide +kernel
theorem dX9_forgets_19 : decode cX9_forgets 19 = .ok (.iload_n 1, 1) := by decide +kernel
theorem dX9_forgets_20 : decode cX9_forgets 20 = .ok (.iadd, 1) := by decide +kernel
theorem dX9_forgets_21 : decode cX9_forgets 21 = .ok (.iaload, 1) := by decide +kernel
theorem dX9_forgets_22 : decode cX9_forgets 22 = .ok (.istore_n 3, 1) := by decide +kernel
theorem dX9_forgets_23 : decode cX9_forgets 23 = .ok (.aload_n 0, 1) := by decide +kernel
theorem dX9_forgets_24 : decode cX9_forgets 24 = .ok (.getfield 7, 3) := by decide +kernel
theorem dX9_forgets_27 : decode cX9_forgets 27 = .ok (.bipush 57, 2) := by decide +kernel
theorem dX9_forgets_29 : decode cX9_forgets 29 = .ok (.bipush 16, 2) := by decide +kernel
theorem dX9_forgets_31 : decode cX9_forgets 31 = .ok (.iload_n 1, 1) := by decide +kernel
theorem dX9_forgets_32 : decode cX9_forgets 32 = .ok (.imul, 1) := by decide +kernel
theorem dX9_forgets_33 : decode cX9_forgets 33 = .ok (.iadd, 1) := by decide +kernel
theorem dX9_forgets_34 : decode cX9_forgets 34 = .ok (.iload_n 2, 1) := by decide +kernel
theorem dX9_forgets_35 : decode cX9_forgets 35 = .ok (.iadd, 1) := by decide +kernel
theorem dX9_forgets_36 : decode cX9_forgets 36 = .ok (.aload_n 0, 1) := by decide +kernel
theorem dX9_forgets_37 : decode cX9_forgets 37 = .ok (.iload_n 1, 1) := by decide +kernel
theorem dX9_forgets_38 : decode cX9_forgets 38 = .ok (.iload_n 3, 1) := by decide +kernel
theorem dX9_forgets_39 : decode cX9_forgets 39 = .ok (.invokevirtual 74, 3) := by decide +kernel
theorem dX9_forgets_42 : decode cX9_forgets 42 = .ok (.iastore, 1) := by decide +kernel
theorem dX9_forgets_43 : decode cX9_forgets 43 = .ok (.aload_n 0, 1) := by decide +kernel
theorem dX9_forgets_44 : decode cX9_forgets 44 = .ok (.getfield 7, 3) := by decide +kernel
theorem dX9_forgets_47 : decode cX9_forgets 47 = .ok (.bipush 121, 2) := by decide +kernel
theorem dX9_forgets_49 : decode cX9_forgets 49 = .ok (.bipush 16, 2) := by decide +kernel
theorem dX9_forgets_51 : decode cX9_forgets 51 = .ok (.iload_n 1, 1) := by decide +kernel
theorem dX9_forgets_52 : decode cX9_forgets 52 = .ok (.imul, 1) := by decide +kernel
theorem dX9_forgets_53 : decode cX9_forgets 53 = .ok (.iadd, 1) := by decide +kernel
theorem dX9_forgets_54 : decode cX9_forgets 54 = .ok (.iload_n 2, 1) := by decide +kernel
theorem dX9_forgets_55 : decode cX9_forgets 55 = .ok (.iadd, 1) := by decide +kernel
theorem dX9_forgets_56 : decode cX9_forgets 56 = .ok (.aload_n 0, 1) := by decide +kernel
theorem dX9_forgets_57 : decode cX9_forgets 57 = .ok (.iload_n 1, 1) := by decide +kernel
theorem dX9_forgets_58 : decode cX9_forgets 58 = .ok (.iload_n 3, 1) := by decide +kernel
theorem dX9_forgets_59 : decode cX9_forgets 59 = .ok (.invokevirtual 77, 3) := by decide +kernel
theorem dX9_forgets_62 : decode cX9_forgets 62 = .ok (.iastore, 1) := by decide +kernel
theorem dX9_forgets_63 : decode cX9_forgets 63 = .ok (.aload_n 0, 1) := by decide +kernel
theorem dX9_forgets_64 : decode cX9_forgets 64 = .ok (.getfield 7, 3) := by decide +kernel
theorem dX9_forgets_67 : decode cX9_forgets 67 = .ok (.sipush 185, 3) := by decide +kernel
theorem dX9_forgets_70 : decode cX9_forgets 70 = .ok (.bipush 16, 2) := by decide +kernel
theorem dX9_forgets_72 : decode cX9_forgets 72 = .ok (.iload_n 1, 1) := by decide +kernel
theorem dX9_forgets_73 : decode cX9_forgets 73 = .ok (.imul, 1) := by decide +kernel
theorem dX9_forgets_74 : decode cX9_forgets 74 = .ok (.iadd, 1) := by decide +kernel
theorem dX9_forgets_75 : decode cX9_forgets 75 = .ok (.iload_n 2, 1) := by decide +kernel
theorem dX9_forgets_76 : decode cX9_forgets 76 = .ok (.iadd, 1) := by decide +kernel
theorem dX9_forgets_77 : decode cX9_forgets 77 = .ok (.aload_n 0, 1) := by decide +kernel
theorem dX9_forgets_78 : decode cX9_forgets 78 = .ok (.iload_n 1, 1) := by decide +kernel
theorem dX9_forgets_79 : decode cX9_forgets 79 = .ok (.iload_n 3, 1) := by decide +kernel
theorem dX9_forgets_80 : decode cX9_forgets 80 = .ok (.invokevirtual 80, 3) := by decide +kernel
theorem dX9_forgets_83 : decode cX9_forgets 83 = .ok (.iastore, 1) := by decide +kernel
theorem dX9_forgets_84 : decode cX9_forgets 84 = .ok (.return_, 1) := by decide +kernel
theorem dX9_eldest_0 : decode cX9_eldest 0 = .ok (.iconst 0, 1) := by decide +kernel
theorem dX9_eldest_1 : decode cX9_eldest 1 = .ok (.istore_n 2, 1) := by decide +kernel
theorem dX9_eldest_2 : decode cX9_eldest 2 = .ok (.iconst 1, 1) := by decide +kernel
theorem dX9_eldest_3 : decode cX9_eldest 3 = .ok (.istore_n 3, 1) := by decide +kernel
theorem dX9_eldest_4 : decode cX9_eldest 4 = .ok (.iload_n 3, 1) := by decide +kernel
theorem dX9_eldest_5 : decode cX9_eldest 5 = .ok (.aload_n 0, 1) := by decide +kernel
theorem dX9_eldest_6 : decode cX9_eldest 6 = .ok (.getfield 7, 3) := by decide +kernel
theorem dX9_eldest_9 : decode cX9_eldest 9 = .ok (.bipush 53, 2) := by decide +kernel
theorem dX9_eldest_11 : decode cX9_eldest 11 = .ok (.iload_n 1, 1) := by decide +kernel
theorem dX9_eldest_12 : decode cX9_eldest 12 = .ok (.iadd, 1) := by decide +kernel
theorem dX9_eldest_13 : decode cX9_eldest 13 = .ok (.iaload, 1) := by decide +kernel
theorem dX9_eldest_14 : decode cX9_eldest 14 = .ok (.if_icmp .ge 72, 3) := by decide +kernel
theorem dX9_eldest_17 : decode cX9_eldest 17 = .ok (.aload_n 0, 1) := by decide +kernel
theorem dX9_eldest_18 : decode cX9_eldest 18 = .ok (.iload_n 1, 1) := by decide +kernel
theorem dX9_eldest_19 : decode cX9_eldest 19 = .ok (.iload_n 3, 1) := by decide +kernel
theorem dX9_eldest_20 : decode cX9_eldest 20 = .ok (.invokevirtual 80, 3) := by decide +kernel
theorem dX9_eldest_23 : decode cX9_eldest 23 = .ok (.aload_n 0, 1) := by decide +kernel
theorem dX9_eldest_24 : decode cX9_eldest 24 = .ok (.iload_n 1, 1) := by decide +kernel
theorem dX9_eldest_25 : decode cX9_eldest 25 = .ok (.iload_n 2, 1) := by decide +kernel
theorem dX9_eldest_26 : decode cX9_eldest 26 = .ok (.invokevirtual 80, 3) := by decide +kernel
theorem dX9_eldest_29 : decode cX9_eldest 29 = .ok (.if_icmp .lt 33, 3) := by decide +kernel
theorem dX9_eldest_32 : decode cX9_eldest 32 = .ok (.aload_n 0, 1) := by decide +kernel
theorem dX9_eldest_33 : decode cX9_eldest 33 = .ok (.iload_n 1, 1) := by decide +kernel
theorem dX9_eldest_34 : decode cX9_eldest 34 = .ok (.iload_n 3, 1) := by decide +kernel
theorem dX9_eldest_35 : decode cX9_eldest 35 = .ok (.invokevirtual 80, 3) := by decide +kernel
theorem dX9_eldest_38 : decode cX9_eldest 38 = .ok (.aload_n 0, 1) := by decide +kernel
theorem dX9_eldest_39 : decode cX9_eldest 39 = .ok (.iload_n 1, 1) := by decide +kernel
theorem dX9_eldest_40 : decode cX9_eldest 40 = .ok (.iload_n 2, 1) := by decide +kernel
theorem dX9_eldest_41 : decode cX9_eldest 41 = .ok (.invokevirtual 80, 3) := by decide +kernel
theorem dX9_eldest_44 : decode cX9_eldest 44 = .ok (.if_icmp .ne 22, 3) := by decide +kernel
theorem dX9_eldest_47 : decode cX9_eldest 47 = .ok (.aload_n 0, 1) := by decide +kernel
theorem dX9_eldest_48 : decode cX9_eldest 48 = .ok (.iload_n 1, 1) := by decide +kernel
theorem dX9_eldest_49 : decode cX9_eldest 49 = .ok (.iload_n 3, 1) := by decide +kernel
theorem dX9_eldest_50 : decode cX9_eldest 50 = .ok (.invokevirtual 74, 3) := by decide +kernel
theorem dX9_eldest_53 : decode cX9_eldest 53 = .ok (.aload_n 0, 1) := by decide +kernel
theorem dX9_eldest_54 : decode cX9_eldest 54 = .ok (.iload_n 1, 1) := by decide +kernel
theorem dX9_eldest_55 : decode cX9_eldest 55 = .ok (.iload_n 2, 1) := by decide +kernel
theorem dX9_eldest_56 : decode cX9_eldest 56 = .ok (.invokevirtual 74, 3) := by decide +kernel
theorem dX9_eldest_59 : decode cX9_eldest 59 = .ok (.if_icmp .ge 7, 3) := by decide +kernel
theorem dX9_eldest_62 : decode cX9_eldest 62 = .ok (.iconst 1, 1) := by decide +kernel
theorem dX9_eldest_63 : decode cX9_eldest 63 = .ok (.goto 4, 3) := by decide +kernel
theorem dX9_eldest_66 : decode cX9_eldest 66 = .ok (.iconst 0, 1) := by decide +kernel
theorem dX9_eldest_67 : decode cX9_eldest 67 = .ok (.istore 4, 2) := by decide +kernel
theorem dX9_eldest_69 : decode cX9_eldest 69 = .ok (.iload 4, 2) := by decide +kernel
theorem dX9_eldest_71 : decode cX9_eldest 71 = .ok (.ifCond .eq 7, 3) := by decide +kernel
theorem dX9_eldest_74 : decode cX9_eldest 74 = .ok (.iload_n 3, 1) := by decide +kernel
theorem dX9_eldest_75 : decode cX9_eldest 75 = .ok (.goto 4, 3) := by decide +kernel
theorem dX9_eldest_78 : decode cX9_eldest 78 = .ok (.iload_n 2, 1) := by decide +kernel
theorem dX9_eldest_79 : decode cX9_eldest 79 = .ok (.istore_n 2, 1) := by decide +kernel
theorem dX9_eldest_80 : decode cX9_eldest 80 = .ok (.iinc 3 1, 3) := by decide +kernel
theorem dX9_eldest_83 : decode cX9_eldest 83 = .ok (.goto (-79), 3) := by decide +kernel
theorem dX9_eldest_86 : decode cX9_eldest 86 = .ok (.iload_n 2, 1) := by decide +kernel
theorem dX9_eldest_87 : decode cX9_eldest 87 = .ok (.ireturn, 1) := by decide +kernel
theorem dX9_ages_0 : decode cX9_ages 0 = .ok (.iconst 0, 1) := by decide +kernel
theorem dX9_ages_1 : decode cX9_ages 1 = .ok (.istore_n 1, 1) := by decide +kernel
theorem dX9_ages_2 : decode cX9_ages 2 = .ok (.iload_n 1, 1) := by decide +kernel
theorem dX9_ages_3 : decode cX9_ages 3 = .ok (.iconst 4, 1) := by decide +kernel
theorem dX9_ages_4 : decode cX9_ages 4 = .ok (.if_icmp .ge 59, 3) := by decide +kernel
theorem dX9_ages_7 : decode cX9_ages 7 = .ok (.aload_n 0, 1) := by decide +kernel
theorem dX9_ages_8 : decode cX9_ages 8 = .ok (.getfield 7, 3) := by decide +kernel
theorem dX9_ages_11 : decode cX9_ages 11 = .ok (.bipush 53, 2) := by decide +kernel
theorem dX9_ages_13 : decode cX9_ages 13 = .ok (.iload_n 1, 1) := by decide +kernel
theorem dX9_ages_14 : decode cX9_ages 14 = .ok (.iadd, 1) := by decide +kernel
theorem dX9_ages_15 : decode cX9_ages 15 = .ok (.iaload, 1) := by decide +kernel
theorem dX9_ages_16 : decode cX9_ages 16 = .ok (.iconst 1, 1) := by decide +kernel
theorem dX9_ages_17 : decode cX9_ages 17 = .ok (.isub, 1) := by decide +kernel
theorem dX9_ages_18 : decode cX9_ages 18 = .ok (.istore_n 2, 1) := by decide +kernel
theorem dX9_ages_19 : decode cX9_ages 19 = .ok (.iload_n 2, 1) := by decide +kernel
theorem dX9_ages_20 : decode cX9_ages 20 = .ok (.ifCond .lt 37, 3) := by decide +kernel
theorem dX9_ages_23 : decode cX9_ages 23 = .ok (.aload_n 0, 1) := by decide +kernel
theorem dX9_ages_24 : decode cX9_ages 24 = .ok (.getfield 7, 3) := by decide +kernel
theorem dX9_ages_27 : decode cX9_ages 27 = .ok (.iconst 2, 1) := by decide +kernel
theorem dX9_ages_28 : decode cX9_ages 28 = .ok (.iaload, 1) := by decide +kernel
theorem dX9_ages_29 : decode cX9_ages 29 = .ok (.aload_n 0, 1) := by decide +kernel
theorem dX9_ages_30 : decode cX9_ages 30 = .ok (.iload_n 1, 1) := by decide +kernel
theorem dX9_ages_31 : decode cX9_ages 31 = .ok (.iload_n 2, 1) := by decide +kernel
theorem dX9_ages_32 : decode cX9_ages 32 = .ok (.invokevirtual 80, 3) := by decide +kernel
theorem dX9_ages_35 : decode cX9_ages 35 = .ok (.isub, 1) := by decide +kernel
theorem dX9_ages_36 : decode cX9_ages 36 = .ok (.aload_n 0, 1) := by decide +kernel
theorem dX9_ages_37 : decode cX9_ages 37 = .ok (.getfield 7, 3) := by decide +kernel
theorem dX9_ages_40 : decode cX9_ages 40 = .ok (.iconst 4, 1) := by decide +kernel
theorem dX9_ages_41 : decode cX9_ages 41 = .ok (.iaload, 1) := by decide +kernel
theorem dX9_ages_42 : decode cX9_ages 42 = .ok (.if_icmp .le 9, 3) := by decide +kernel
theorem dX9_ages_45 : decode cX9_ages 45 = .ok (.aload_n 0, 1) := by decide +kernel
theorem dX9_ages_46 : decode cX9_ages 46 = .ok (.iload_n 1, 1) := by decide +kernel
theorem dX9_ages_47 : decode cX9_ages 47 = .ok (.iload_n 2, 1) := by decide +kernel
theorem dX9_ages_48 : decode cX9_ages 48 = .ok (.invokevirtual 83, 3) := by decide +kernel
theorem dX9_ages_51 : decode cX9_ages 51 = .ok (.iinc 2 (-1), 3) := by decide +kernel
theorem dX9_ages_54 : decode cX9_ages 54 = .ok (.goto (-35), 3) := by decide +kernel
theorem dX9_ages_57 : decode cX9_ages 57 = .ok (.iinc 1 1, 3) := by decide +kernel
theorem dX9_ages_60 : decode cX9_ages 60 = .ok (.goto (-58), 3) := by decide +kernel
theorem dX9_ages_63 : decode cX9_ages 63 = .ok (.return_, 1) := by decide +kernel
theorem dX9_fits_0 : decode cX9_fits 0 = .ok (.iconst 0, 1) := by decide +kernel
theorem dX9_fits_1 : decode cX9_fits 1 = .ok (.istore_n 1, 1) := by decide +kernel
theorem dX9_fits_2 : decode cX9_fits 2 = .ok (.iload_n 1, 1) := by decide +kernel
theorem dX9_fits_3 : decode cX9_fits 3 = .ok (.iconst 4, 1) := by decide +kernel
theorem dX9_fits_4 : decode cX9_fits 4 = .ok (.if_icmp .ge 40, 3) := by decide +kernel
theorem dX9_fits_7 : decode cX9_fits 7 = .ok (.aload_n 0, 1) := by decide +kernel
theorem dX9_fits_8 : decode cX9_fits 8 = .ok (.getfield 7, 3) := by decide +kernel
theorem dX9_fits_11 : decode cX9_fits 11 = .ok (.bipush 53, 2) := by decide +kernel
theorem dX9_fits_13 : decode cX9_fits 13 = .ok (.iload_n 1, 1) := by decide +kernel
theorem dX9_fits_14 : decode cX9_fits 14 = .ok (.iadd, 1) := by decide +kernel
theorem dX9_fits_15 : decode cX9_fits 15 = .ok (.iaload, 1) := by decide +kernel
theorem dX9_fits_16 : decode cX9_fits 16 = .ok (.aload_n 0, 1) := by decide +kernel
theorem dX9_fits_17 : decode cX9_fits 17 = .ok (.getfield 7, 3) := by decide +kernel
theorem dX9_fits_20 : decode cX9_fits 20 = .ok (.iconst 3, 1) := by decide +kernel
theorem dX9_fits_21 : decode cX9_fits 21 = .ok (.iaload, 1) := by decide +kernel
theorem dX9_fits_22 : decode cX9_fits 22 = .ok (.if_icmp .le 16, 3) := by decide +kernel
theorem dX9_fits_25 : decode cX9_fits 25 = .ok (.aload_n 0, 1) := by decide +kernel
theorem dX9_fits_26 : decode cX9_fits 26 = .ok (.iload_n 1, 1) := by decide +kernel
theorem dX9_fits_27 : decode cX9_fits 27 = .ok (.aload_n 0, 1) := by decide +kernel
theorem dX9_fits_28 : decode cX9_fits 28 = .ok (.iload_n 1, 1) := by decide +kernel
theorem dX9_fits_29 : decode cX9_fits 29 = .ok (.invokevirtual 86, 3) := by decide +kernel
theorem dX9_fits_32 : decode cX9_fits 32 = .ok (.invokevirtual 83, 3) := by decide +kernel
theorem dX9_fits_35 : decode cX9_fits 35 = .ok (.goto (-28), 3) := by decide +kernel
theorem dX9_fits_38 : decode cX9_fits 38 = .ok (.iinc 1 1, 3) := by decide +kernel
theorem dX9_fits_41 : decode cX9_fits 41 = .ok (.goto (-39), 3) := by decide +kernel
theorem dX9_fits_44 : decode cX9_fits 44 = .ok (.return_, 1) := by decide +kernel
theorem dX9_slotOf_0 : decode cX9_slotOf 0 = .ok (.iload_n 1, 1) := by decide +kernel
theorem dX9_slotOf_1 : decode cX9_slotOf 1 = .ok (.ldc 90, 2) := by decide +kernel
theorem dX9_slotOf_3 : decode cX9_slotOf 3 = .ok (.invokestatic 45, 3) := by decide +kernel
theorem dX9_slotOf_6 : decode cX9_slotOf 6 = .ok (.aload_n 0, 1) := by decide +kernel
theorem dX9_slotOf_7 : decode cX9_slotOf 7 = .ok (.getfield 7, 3) := by decide +kernel
theorem dX9_slotOf_10 : decode cX9_slotOf 10 = .ok (.iconst 0, 1) := by decide +kernel
theorem dX9_slotOf_11 : decode cX9_slotOf 11 = .ok (.iaload, 1) := by decide +kernel
theorem dX9_slotOf_12 : decode cX9_slotOf 12 = .ok (.irem, 1) := by decide +kernel
theorem dX9_slotOf_13 : decode cX9_slotOf 13 = .ok (.ireturn, 1) := by decide +kernel
theorem dX9_goesTo_0 : decode cX9_goesTo 0 = .ok (.aload_n 0, 1) := by decide +kernel
theorem dX9_goesTo_1 : decode cX9_goesTo 1 = .ok (.iload_n 1, 1) := by decide +kernel
theorem dX9_goesTo_2 : decode cX9_goesTo 2 = .ok (.iload_n 2, 1) := by decide +kernel
theorem dX9_goesTo_3 : decode cX9_goesTo 3 = .ok (.invokevirtual 91, 3) := by decide +kernel
theorem dX9_goesTo_6 : decode cX9_goesTo 6 = .ok (.istore_n 3, 1) := by decide +kernel
theorem dX9_goesTo_7 : decode cX9_goesTo 7 = .ok (.iload_n 3, 1) := by decide +kernel
theorem dX9_goesTo_8 : decode cX9_goesTo 8 = .ok (.iconst (-1), 1) := by decide +kernel
theorem dX9_goesTo_9 : decode cX9_goesTo 9 = .ok (.if_icmp .eq 24, 3) := by decide +kernel
theorem dX9_goesTo_12 : decode cX9_goesTo 12 = .ok (.aload_n 0, 1) := by decide +kernel
theorem dX9_goesTo_13 : decode cX9_goesTo 13 = .ok (.iload_n 1, 1) := by decide +kernel
theorem dX9_goesTo_14 : decode cX9_goesTo 14 = .ok (.aload_n 0, 1) := by decide +kernel
theorem dX9_goesTo_15 : decode cX9_goesTo 15 = .ok (.iload_n 1, 1) := by decide +kernel
theorem dX9_goesTo_16 : decode cX9_goesTo 16 = .ok (.iload_n 3, 1) := by decide +kernel
theorem dX9_goesTo_17 : decode cX9_goesTo 17 = .ok (.invokevirtual 77, 3) := by decide +kernel
theorem dX9_goesTo_20 : decode cX9_goesTo 20 = .ok (.invokevirtual 50, 3) := by decide +kernel
theorem dX9_goesTo_23 : decode cX9_goesTo 23 = .ok (.ifCond .eq 10, 3) := by decide +kernel
theorem dX9_goesTo_26 : decode cX9_goesTo 26 = .ok (.aload_n 0, 1) := by decide +kernel
theorem dX9_goesTo_27 : decode cX9_goesTo 27 = .ok (.iload_n 1, 1) := by decide +kernel
theorem dX9_goesTo_28 : decode cX9_goesTo 28 = .ok (.iload_n 3, 1) := by decide +kernel
theorem dX9_goesTo_29 : decode cX9_goesTo 29 = .ok (.invokevirtual 77, 3) := by decide +kernel
theorem dX9_goesTo_32 : decode cX9_goesTo 32 = .ok (.ireturn, 1) := by decide +kernel
theorem dX9_goesTo_33 : decode cX9_goesTo 33 = .ok (.aload_n 0, 1) := by decide +kernel
theorem dX9_goesTo_34 : decode cX9_goesTo 34 = .ok (.iload_n 1, 1) := by decide +kernel
theorem dX9_goesTo_35 : decode cX9_goesTo 35 = .ok (.invokevirtual 94, 3) := by decide +kernel
theorem dX9_goesTo_38 : decode cX9_goesTo 38 = .ok (.aload_n 0, 1) := by decide +kernel
theorem dX9_goesTo_39 : decode cX9_goesTo 39 = .ok (.getfield 16, 3) := by decide +kernel
theorem dX9_goesTo_42 : decode cX9_goesTo 42 = .ok (.aload_n 0, 1) := by decide +kernel
theorem dX9_goesTo_43 : decode cX9_goesTo 43 = .ok (.iload_n 2, 1) := by decide +kernel
theorem dX9_goesTo_44 : decode cX9_goesTo 44 = .ok (.invokevirtual 97, 3) := by decide +kernel
theorem dX9_goesTo_47 : decode cX9_goesTo 47 = .ok (.iaload, 1) := by decide +kernel
theorem dX9_goesTo_48 : decode cX9_goesTo 48 = .ok (.ireturn, 1) := by decide +kernel
theorem dX9_packs_0 : decode cX9_packs 0 = .ok (.aload_n 0, 1) := by decide +kernel
theorem dX9_packs_1 : decode cX9_packs 1 = .ok (.iload_n 1, 1) := by decide +kernel
theorem dX9_packs_2 : decode cX9_packs 2 = .ok (.iload_n 2, 1) := by decide +kernel
theorem dX9_packs_3 : decode cX9_packs 3 = .ok (.invokevirtual 100, 3) := by decide +kernel
theorem dX9_packs_6 : decode cX9_packs 6 = .ok (.istore_n 3, 1) := by decide +kernel
theorem dX9_packs_7 : decode cX9_packs 7 = .ok (.aload_n 0, 1) := by decide +kernel
theorem dX9_packs_8 : decode cX9_packs 8 = .ok (.iload_n 1, 1) := by decide +kernel
theorem dX9_packs_9 : decode cX9_packs 9 = .ok (.iload_n 2, 1) := by decide +kernel
theorem dX9_packs_10 : decode cX9_packs 10 = .ok (.invokevirtual 91, 3) := by decide +kernel
theorem dX9_packs_13 : decode cX9_packs 13 = .ok (.istore 4, 2) := by decide +kernel
theorem dX9_packs_15 : decode cX9_packs 15 = .ok (.iload_n 3, 1) := by decide +kernel
theorem dX9_packs_16 : decode cX9_packs 16 = .ok (.iconst (-1), 1) := by decide +kernel
theorem dX9_packs_17 : decode cX9_packs 17 = .ok (.if_icmp .ne 18, 3) := by decide +kernel
theorem dX9_packs_20 : decode cX9_packs 20 = .ok (.iload 4, 2) := by decide +kernel
theorem dX9_packs_22 : decode cX9_packs 22 = .ok (.iconst (-1), 1) := by decide +kernel
theorem dX9_packs_23 : decode cX9_packs 23 = .ok (.if_icmp .eq 10, 3) := by decide +kernel
theorem dX9_packs_26 : decode cX9_packs 26 = .ok (.aload_n 0, 1) := by decide +kernel
theorem dX9_packs_27 : decode cX9_packs 27 = .ok (.iload_n 1, 1) := by decide +kernel
theorem dX9_packs_28 : decode cX9_packs 28 = .ok (.iload 4, 2) := by decide +kernel
theorem dX9_packs_30 : decode cX9_packs 30 = .ok (.invokevirtual 83, 3) := by decide +kernel
theorem dX9_packs_33 : decode cX9_packs 33 = .ok (.iconst (-1), 1) := by decide +kernel
theorem dX9_packs_34 : decode cX9_packs 34 = .ok (.ireturn, 1) := by decide +kernel
theorem dX9_packs_35 : decode cX9_packs 35 = .ok (.iload 4, 2) := by decide +kernel
theorem dX9_packs_37 : decode cX9_packs 37 = .ok (.iconst (-1), 1) := by decide +kernel
theorem dX9_packs_38 : decode cX9_packs 38 = .ok (.if_icmp .ne 55, 3) := by decide +kernel
theorem dX9_packs_41 : decode cX9_packs 41 = .ok (.aload_n 0, 1) := by decide +kernel
theorem dX9_packs_42 : decode cX9_packs 42 = .ok (.getfield 7, 3) := by decide +kernel
theorem dX9_packs_45 : decode cX9_packs 45 = .ok (.bipush 53, 2) := by decide +kernel
theorem dX9_packs_47 : decode cX9_packs 47 = .ok (.iload_n 1, 1) := by decide +kernel
theorem dX9_packs_48 : decode cX9_packs 48 = .ok (.iadd, 1) := by decide +kernel
theorem dX9_packs_49 : decode cX9_packs 49 = .ok (.iaload, 1) := by decide +kernel
theorem dX9_packs_50 : decode cX9_packs 50 = .ok (.aload_n 0, 1) := by decide +kernel
theorem dX9_packs_51 : decode cX9_packs 51 = .ok (.getfield 7, 3) := by decide +kernel
theorem dX9_packs_54 : decode cX9_packs 54 = .ok (.iconst 3, 1) := by decide +kernel
theorem dX9_packs_55 : decode cX9_packs 55 = .ok (.iaload, 1) := by decide +kernel
theorem dX9_packs_56 : decode cX9_packs 56 = .ok (.if_icmp .ne 13, 3) := by decide +kernel
theorem dX9_packs_59 : decode cX9_packs 59 = .ok (.aload_n 0, 1) := by decide +kernel
theorem dX9_packs_60 : decode cX9_packs 60 = .ok (.iload_n 1, 1) := by decide +kernel
theorem dX9_packs_61 : decode cX9_packs 61 = .ok (.aload_n 0, 1) := by decide +kernel
theorem dX9_packs_62 : decode cX9_packs 62 = .ok (.iload_n 1, 1) := by decide +kernel
theorem dX9_packs_63 : decode cX9_packs 63 = .ok (.invokevirtual 86, 3) := by decide +kernel
theorem dX9_packs_66 : decode cX9_packs 66 = .ok (.invokevirtual 83, 3) := by decide +kernel
theorem dX9_packs_69 : decode cX9_packs 69 = .ok (.aload_n 0, 1) := by decide +kernel
theorem dX9_packs_70 : decode cX9_packs 70 = .ok (.getfield 7, 3) := by decide +kernel
theorem dX9_packs_73 : decode cX9_packs 73 = .ok (.bipush 53, 2) := by decide +kernel
theorem dX9_packs_75 : decode cX9_packs 75 = .ok (.iload_n 1, 1) := by decide +kernel
theorem dX9_packs_76 : decode cX9_packs 76 = .ok (.iadd, 1) := by decide +kernel
theorem dX9_packs_77 : decode cX9_packs 77 = .ok (.iaload, 1) := by decide +kernel
theorem dX9_packs_78 : decode cX9_packs 78 = .ok (.istore 4, 2) := by decide +kernel
theorem dX9_packs_80 : decode cX9_packs 80 = .ok (.aload_n 0, 1) := by decide +kernel
theorem dX9_packs_81 : decode cX9_packs 81 = .ok (.getfield 7, 3) := by decide +kernel
theorem dX9_packs_84 : decode cX9_packs 84 = .ok (.bipush 53, 2) := by decide +kernel
theorem dX9_packs_86 : decode cX9_packs 86 = .ok (.iload_n 1, 1) := by decide +kernel
theorem dX9_packs_87 : decode cX9_packs 87 = .ok (.iadd, 1) := by decide +kernel
theorem dX9_packs_88 : decode cX9_packs 88 = .ok (.dup2, 1) := by decide +kernel
theorem dX9_packs_89 : decode cX9_packs 89 = .ok (.iaload, 1) := by decide +kernel
theorem dX9_packs_90 : decode cX9_packs 90 = .ok (.iconst 1, 1) := by decide +kernel
theorem dX9_packs_91 : decode cX9_packs 91 = .ok (.iadd, 1) := by decide +kernel
theorem dX9_packs_92 : decode cX9_packs 92 = .ok (.iastore, 1) := by decide +kernel
theorem dX9_packs_93 : decode cX9_packs 93 = .ok (.aload_n 0, 1) := by decide +kernel
theorem dX9_packs_94 : decode cX9_packs 94 = .ok (.getfield 7, 3) := by decide +kernel
theorem dX9_packs_97 : decode cX9_packs 97 = .ok (.bipush 57, 2) := by decide +kernel
theorem dX9_packs_99 : decode cX9_packs 99 = .ok (.bipush 16, 2) := by decide +kernel
theorem dX9_packs_101 : decode cX9_packs 101 = .ok (.iload_n 1, 1) := by decide +kernel
theorem dX9_packs_102 : decode cX9_packs 102 = .ok (.imul, 1) := by decide +kernel
theorem dX9_packs_103 : decode cX9_packs 103 = .ok (.iadd, 1) := by decide +kernel
theorem dX9_packs_104 : decode cX9_packs 104 = .ok (.iload 4, 2) := by decide +kernel
theorem dX9_packs_106 : decode cX9_packs 106 = .ok (.iadd, 1) := by decide +kernel
theorem dX9_packs_107 : decode cX9_packs 107 = .ok (.iload_n 2, 1) := by decide +kernel
theorem dX9_packs_108 : decode cX9_packs 108 = .ok (.iastore, 1) := by decide +kernel
theorem dX9_packs_109 : decode cX9_packs 109 = .ok (.aload_n 0, 1) := by decide +kernel
theorem dX9_packs_110 : decode cX9_packs 110 = .ok (.getfield 7, 3) := by decide +kernel
theorem dX9_packs_113 : decode cX9_packs 113 = .ok (.bipush 121, 2) := by decide +kernel
theorem dX9_packs_115 : decode cX9_packs 115 = .ok (.bipush 16, 2) := by decide +kernel
theorem dX9_packs_117 : decode cX9_packs 117 = .ok (.iload_n 1, 1) := by decide +kernel
theorem dX9_packs_118 : decode cX9_packs 118 = .ok (.imul, 1) := by decide +kernel
theorem dX9_packs_119 : decode cX9_packs 119 = .ok (.iadd, 1) := by decide +kernel
theorem dX9_packs_120 : decode cX9_packs 120 = .ok (.iload 4, 2) := by decide +kernel
theorem dX9_packs_122 : decode cX9_packs 122 = .ok (.iadd, 1) := by decide +kernel
theorem dX9_packs_123 : decode cX9_packs 123 = .ok (.iload_n 3, 1) := by decide +kernel
theorem dX9_packs_124 : decode cX9_packs 124 = .ok (.iastore, 1) := by decide +kernel
theorem dX9_packs_125 : decode cX9_packs 125 = .ok (.aload_n 0, 1) := by decide +kernel
theorem dX9_packs_126 : decode cX9_packs 126 = .ok (.getfield 7, 3) := by decide +kernel
theorem dX9_packs_129 : decode cX9_packs 129 = .ok (.sipush 185, 3) := by decide +kernel
theorem dX9_packs_132 : decode cX9_packs 132 = .ok (.bipush 16, 2) := by decide +kernel
theorem dX9_packs_134 : decode cX9_packs 134 = .ok (.iload_n 1, 1) := by decide +kernel
theorem dX9_packs_135 : decode cX9_packs 135 = .ok (.imul, 1) := by decide +kernel
theorem dX9_packs_136 : decode cX9_packs 136 = .ok (.iadd, 1) := by decide +kernel
theorem dX9_packs_137 : decode cX9_packs 137 = .ok (.iload 4, 2) := by decide +kernel
theorem dX9_packs_139 : decode cX9_packs 139 = .ok (.iadd, 1) := by decide +kernel
theorem dX9_packs_140 : decode cX9_packs 140 = .ok (.aload_n 0, 1) := by decide +kernel
theorem dX9_packs_141 : decode cX9_packs 141 = .ok (.getfield 7, 3) := by decide +kernel
theorem dX9_packs_144 : decode cX9_packs 144 = .ok (.iconst 2, 1) := by decide +kernel
theorem dX9_packs_145 : decode cX9_packs 145 = .ok (.iaload, 1) := by decide +kernel
theorem dX9_packs_146 : decode cX9_packs 146 = .ok (.iastore, 1) := by decide +kernel
theorem dX9_packs_147 : decode cX9_packs 147 = .ok (.iload_n 3, 1) := by decide +kernel
theorem dX9_packs_148 : decode cX9_packs 148 = .ok (.ireturn, 1) := by decide +kernel
theorem dX9_sizes_0 : decode cX9_sizes 0 = .ok (.aload_n 0, 1) := by decide +kernel
theorem dX9_sizes_1 : decode cX9_sizes 1 = .ok (.getfield 7, 3) := by decide +kernel
theorem dX9_sizes_4 : decode cX9_sizes 4 = .ok (.iconst 0, 1) := by decide +kernel
theorem dX9_sizes_5 : decode cX9_sizes 5 = .ok (.iload_n 1, 1) := by decide +kernel
theorem dX9_sizes_6 : decode cX9_sizes 6 = .ok (.iastore, 1) := by decide +kernel
theorem dX9_sizes_7 : decode cX9_sizes 7 = .ok (.iconst 0, 1) := by decide +kernel
theorem dX9_sizes_8 : decode cX9_sizes 8 = .ok (.istore_n 2, 1) := by decide +kernel
theorem dX9_sizes_9 : decode cX9_sizes 9 = .ok (.iload_n 2, 1) := by decide +kernel
theorem dX9_sizes_10 : decode cX9_sizes 10 = .ok (.iconst 4, 1) := by decide +kernel
theorem dX9_sizes_11 : decode cX9_sizes 11 = .ok (.if_icmp .ge 20, 3) := by decide +kernel
theorem dX9_sizes_14 : decode cX9_sizes 14 = .ok (.aload_n 0, 1) := by decide +kernel
theorem dX9_sizes_15 : decode cX9_sizes 15 = .ok (.getfield 7, 3) := by decide +kernel
theorem dX9_sizes_18 : decode cX9_sizes 18 = .ok (.sipush 249, 3) := by decide +kernel
theorem dX9_sizes_21 : decode cX9_sizes 21 = .ok (.iload_n 2, 1) := by decide +kernel
theorem dX9_sizes_22 : decode cX9_sizes 22 = .ok (.iadd, 1) := by decide +kernel
theorem dX9_sizes_23 : decode cX9_sizes 23 = .ok (.iconst 0, 1) := by decide +kernel
theorem dX9_sizes_24 : decode cX9_sizes 24 = .ok (.iastore, 1) := by decide +kernel
theorem dX9_sizes_25 : decode cX9_sizes 25 = .ok (.iinc 2 1, 3) := by decide +kernel
theorem dX9_sizes_28 : decode cX9_sizes 28 = .ok (.goto (-19), 3) := by decide +kernel
theorem dX9_sizes_31 : decode cX9_sizes 31 = .ok (.return_, 1) := by decide +kernel
theorem dX9_isKey_0 : decode cX9_isKey 0 = .ok (.iconst 0, 1) := by decide +kernel
theorem dX9_isKey_1 : decode cX9_isKey 1 = .ok (.istore_n 2, 1) := by decide +kernel
theorem dX9_isKey_2 : decode cX9_isKey 2 = .ok (.iload_n 2, 1) := by decide +kernel
theorem dX9_isKey_3 : decode cX9_isKey 3 = .ok (.aload_n 0, 1) := by decide +kernel
theorem dX9_isKey_4 : decode cX9_isKey 4 = .ok (.getfield 7, 3) := by decide +kernel
theorem dX9_isKey_7 : decode cX9_isKey 7 = .ok (.iconst 1, 1) := by decide +kernel
theorem dX9_isKey_8 : decode cX9_isKey 8 = .ok (.iaload, 1) := by decide +kernel
theorem dX9_isKey_9 : decode cX9_isKey 9 = .ok (.if_icmp .ge 23, 3) := by decide +kernel
theorem dX9_isKey_12 : decode cX9_isKey 12 = .ok (.aload_n 0, 1) := by decide +kernel
theorem dX9_isKey_13 : decode cX9_isKey 13 = .ok (.getfield 7, 3) := by decide +kernel
theorem dX9_isKey_16 : decode cX9_isKey 16 = .ok (.iconst 5, 1) := by decide +kernel
theorem dX9_isKey_17 : decode cX9_isKey 17 = .ok (.iload_n 2, 1) := by decide +kernel
theorem dX9_isKey_18 : decode cX9_isKey 18 = .ok (.iadd, 1) := by decide +kernel
theorem dX9_isKey_19 : decode cX9_isKey 19 = .ok (.iaload, 1) := by decide +kernel
theorem dX9_isKey_20 : decode cX9_isKey 20 = .ok (.iload_n 1, 1) := by decide +kernel
theorem dX9_isKey_21 : decode cX9_isKey 21 = .ok (.if_icmp .ne 5, 3) := by decide +kernel
theorem dX9_isKey_24 : decode cX9_isKey 24 = .ok (.iconst 1, 1) := by decide +kernel
theorem dX9_isKey_25 : decode cX9_isKey 25 = .ok (.ireturn, 1) := by decide +kernel
theorem dX9_isKey_26 : decode cX9_isKey 26 = .ok (.iinc 2 1, 3) := by decide +kernel
theorem dX9_isKey_29 : decode cX9_isKey 29 = .ok (.goto (-27), 3) := by decide +kernel
theorem dX9_isKey_32 : decode cX9_isKey 32 = .ok (.iconst 0, 1) := by decide +kernel
theorem dX9_isKey_33 : decode cX9_isKey 33 = .ok (.ireturn, 1) := by decide +kernel
theorem dX9_backs_0 : decode cX9_backs 0 = .ok (.aload_n 0, 1) := by decide +kernel
theorem dX9_backs_1 : decode cX9_backs 1 = .ok (.getfield 7, 3) := by decide +kernel
theorem dX9_backs_4 : decode cX9_backs 4 = .ok (.iconst 1, 1) := by decide +kernel
theorem dX9_backs_5 : decode cX9_backs 5 = .ok (.iaload, 1) := by decide +kernel
theorem dX9_backs_6 : decode cX9_backs 6 = .ok (.istore_n 3, 1) := by decide +kernel
theorem dX9_backs_7 : decode cX9_backs 7 = .ok (.aload_n 0, 1) := by decide +kernel
theorem dX9_backs_8 : decode cX9_backs 8 = .ok (.getfield 7, 3) := by decide +kernel
theorem dX9_backs_11 : decode cX9_backs 11 = .ok (.iconst 5, 1) := by decide +kernel
theorem dX9_backs_12 : decode cX9_backs 12 = .ok (.iload_n 3, 1) := by decide +kernel
theorem dX9_backs_13 : decode cX9_backs 13 = .ok (.iadd, 1) := by decide +kernel
theorem dX9_backs_14 : decode cX9_backs 14 = .ok (.iload_n 1, 1) := by decide +kernel
theorem dX9_backs_15 : decode cX9_backs 15 = .ok (.iastore, 1) := by decide +kernel
theorem dX9_backs_16 : decode cX9_backs 16 = .ok (.aload_n 0, 1) := by decide +kernel
theorem dX9_backs_17 : decode cX9_backs 17 = .ok (.getfield 7, 3) := by decide +kernel
theorem dX9_backs_20 : decode cX9_backs 20 = .ok (.bipush 13, 2) := by decide +kernel
theorem dX9_backs_22 : decode cX9_backs 22 = .ok (.iload_n 3, 1) := by decide +kernel
theorem dX9_backs_23 : decode cX9_backs 23 = .ok (.iadd, 1) := by decide +kernel
theorem dX9_backs_24 : decode cX9_backs 24 = .ok (.iload_n 2, 1) := by decide +kernel
theorem dX9_backs_25 : decode cX9_backs 25 = .ok (.iastore, 1) := by decide +kernel
theorem dX9_backs_26 : decode cX9_backs 26 = .ok (.iconst 0, 1) := by decide +kernel
theorem dX9_backs_27 : decode cX9_backs 27 = .ok (.istore 4, 2) := by decide +kernel
theorem dX9_backs_29 : decode cX9_backs 29 = .ok (.iload 4, 2) := by decide +kernel
theorem dX9_backs_31 : decode cX9_backs 31 = .ok (.iconst 4, 1) := by decide +kernel
theorem dX9_backs_32 : decode cX9_backs 32 = .ok (.if_icmp .ge 25, 3) := by decide +kernel
theorem dX9_backs_35 : decode cX9_backs 35 = .ok (.aload_n 0, 1) := by decide +kernel
theorem dX9_backs_36 : decode cX9_backs 36 = .ok (.getfield 7, 3) := by decide +kernel
theorem dX9_backs_39 : decode cX9_backs 39 = .ok (.bipush 21, 2) := by decide +kernel
theorem dX9_backs_41 : decode cX9_backs 41 = .ok (.bipush 8, 2) := by decide +kernel
theorem dX9_backs_43 : decode cX9_backs 43 = .ok (.iload 4, 2) := by decide +kernel
theorem dX9_backs_45 : decode cX9_backs 45 = .ok (.imul, 1) := by decide +kernel
theorem dX9_backs_46 : decode cX9_backs 46 = .ok (.iadd, 1) := by decide +kernel
theorem dX9_backs_47 : decode cX9_backs 47 = .ok (.iload_n 3, 1) := by decide +kernel
theorem dX9_backs_48 : decode cX9_backs 48 = .ok (.iadd, 1) := by decide +kernel
theorem dX9_backs_49 : decode cX9_backs 49 = .ok (.iconst 1, 1) := by decide +kernel
theorem dX9_backs_50 : decode cX9_backs 50 = .ok (.iastore, 1) := by decide +kernel
theorem dX9_backs_51 : decode cX9_backs 51 = .ok (.iinc 4 1, 3) := by decide +kernel
theorem dX9_backs_54 : decode cX9_backs 54 = .ok (.goto (-25), 3) := by decide +kernel
theorem dX9_backs_57 : decode cX9_backs 57 = .ok (.aload_n 0, 1) := by decide +kernel
theorem dX9_backs_58 : decode cX9_backs 58 = .ok (.getfield 7, 3) := by decide +kernel
theorem dX9_backs_61 : decode cX9_backs 61 = .ok (.iconst 1, 1) := by decide +kernel
theorem dX9_backs_62 : decode cX9_backs 62 = .ok (.dup2, 1) := by decide +kernel
theorem dX9_backs_63 : decode cX9_backs 63 = .ok (.iaload, 1) := by decide +kernel
theorem dX9_backs_64 : decode cX9_backs 64 = .ok (.iconst 1, 1) := by decide +kernel
theorem dX9_backs_65 : decode cX9_backs 65 = .ok (.iadd, 1) := by decide +kernel
theorem dX9_backs_66 : decode cX9_backs 66 = .ok (.iastore, 1) := by decide +kernel
theorem dX9_backs_67 : decode cX9_backs 67 = .ok (.iload_n 3, 1) := by decide +kernel
theorem dX9_backs_68 : decode cX9_backs 68 = .ok (.ireturn, 1) := by decide +kernel
theorem dX9_seesSo_0 : decode cX9_seesSo 0 = .ok (.iconst 0, 1) := by decide +kernel
theorem dX9_seesSo_1 : decode cX9_seesSo 1 = .ok (.istore 4, 2) := by decide +kernel
theorem dX9_seesSo_3 : decode cX9_seesSo 3 = .ok (.iconst 0, 1) := by decide +kernel
theorem dX9_seesSo_4 : decode cX9_seesSo 4 = .ok (.istore 5, 2) := by decide +kernel
theorem dX9_seesSo_6 : decode cX9_seesSo 6 = .ok (.iload 5, 2) := by decide +kernel
theorem dX9_seesSo_8 : decode cX9_seesSo 8 = .ok (.iconst 4, 1) := by decide +kernel
theorem dX9_seesSo_9 : decode cX9_seesSo 9 = .ok (.if_icmp .ge 50, 3) := by decide +kernel
theorem dX9_seesSo_12 : decode cX9_seesSo 12 = .ok (.iload_n 1, 1) := by decide +kernel
theorem dX9_seesSo_13 : decode cX9_seesSo 13 = .ok (.iconst (-1), 1) := by decide +kernel
theorem dX9_seesSo_14 : decode cX9_seesSo 14 = .ok (.if_icmp .eq 9, 3) := by decide +kernel
theorem dX9_seesSo_17 : decode cX9_seesSo 17 = .ok (.iload_n 1, 1) := by decide +kernel
theorem dX9_seesSo_18 : decode cX9_seesSo 18 = .ok (.iload 5, 2) := by decide +kernel
theorem dX9_seesSo_20 : decode cX9_seesSo 20 = .ok (.if_icmp .ne 33, 3) := by decide +kernel
theorem dX9_seesSo_23 : decode cX9_seesSo 23 = .ok (.aload_n 0, 1) := by decide +kernel
theorem dX9_seesSo_24 : decode cX9_seesSo 24 = .ok (.iload 5, 2) := by decide +kernel
theorem dX9_seesSo_26 : decode cX9_seesSo 26 = .ok (.iload_n 2, 1) := by decide +kernel
theorem dX9_seesSo_27 : decode cX9_seesSo 27 = .ok (.invokevirtual 50, 3) := by decide +kernel
theorem dX9_seesSo_30 : decode cX9_seesSo 30 = .ok (.iload_n 3, 1) := by decide +kernel
theorem dX9_seesSo_31 : decode cX9_seesSo 31 = .ok (.if_icmp .eq 22, 3) := by decide +kernel
theorem dX9_seesSo_34 : decode cX9_seesSo 34 = .ok (.aload_n 0, 1) := by decide +kernel
theorem dX9_seesSo_35 : decode cX9_seesSo 35 = .ok (.getfield 7, 3) := by decide +kernel
theorem dX9_seesSo_38 : decode cX9_seesSo 38 = .ok (.bipush 21, 2) := by decide +kernel
theorem dX9_seesSo_40 : decode cX9_seesSo 40 = .ok (.bipush 8, 2) := by decide +kernel
theorem dX9_seesSo_42 : decode cX9_seesSo 42 = .ok (.iload 5, 2) := by decide +kernel
theorem dX9_seesSo_44 : decode cX9_seesSo 44 = .ok (.imul, 1) := by decide +kernel
theorem dX9_seesSo_45 : decode cX9_seesSo 45 = .ok (.iadd, 1) := by decide +kernel
theorem dX9_seesSo_46 : decode cX9_seesSo 46 = .ok (.iload_n 2, 1) := by decide +kernel
theorem dX9_seesSo_47 : decode cX9_seesSo 47 = .ok (.iadd, 1) := by decide +kernel
theorem dX9_seesSo_48 : decode cX9_seesSo 48 = .ok (.iload_n 3, 1) := by decide +kernel
theorem dX9_seesSo_49 : decode cX9_seesSo 49 = .ok (.iastore, 1) := by decide +kernel
theorem dX9_seesSo_50 : decode cX9_seesSo 50 = .ok (.iinc 4 1, 3) := by decide +kernel
theorem dX9_seesSo_53 : decode cX9_seesSo 53 = .ok (.iinc 5 1, 3) := by decide +kernel
theorem dX9_seesSo_56 : decode cX9_seesSo 56 = .ok (.goto (-50), 3) := by decide +kernel
theorem dX9_seesSo_59 : decode cX9_seesSo 59 = .ok (.iload 4, 2) := by decide +kernel
theorem dX9_seesSo_61 : decode cX9_seesSo 61 = .ok (.ireturn, 1) := by decide +kernel
theorem dX9_ticks_0 : decode cX9_ticks 0 = .ok (.aload_n 0, 1) := by decide +kernel
theorem dX9_ticks_1 : decode cX9_ticks 1 = .ok (.getfield 7, 3) := by decide +kernel
theorem dX9_ticks_4 : decode cX9_ticks 4 = .ok (.iconst 2, 1) := by decide +kernel
theorem dX9_ticks_5 : decode cX9_ticks 5 = .ok (.dup2, 1) := by decide +kernel
theorem dX9_ticks_6 : decode cX9_ticks 6 = .ok (.iaload, 1) := by decide +kernel
theorem dX9_ticks_7 : decode cX9_ticks 7 = .ok (.iload_n 1, 1) := by decide +kernel
theorem dX9_ticks_8 : decode cX9_ticks 8 = .ok (.iadd, 1) := by decide +kernel
theorem dX9_ticks_9 : decode cX9_ticks 9 = .ok (.iastore, 1) := by decide +kernel
theorem dX9_ticks_10 : decode cX9_ticks 10 = .ok (.aload_n 0, 1) := by decide +kernel
theorem dX9_ticks_11 : decode cX9_ticks 11 = .ok (.invokevirtual 103, 3) := by decide +kernel
theorem dX9_ticks_14 : decode cX9_ticks 14 = .ok (.aload_n 0, 1) := by decide +kernel
theorem dX9_ticks_15 : decode cX9_ticks 15 = .ok (.getfield 7, 3) := by decide +kernel
theorem dX9_ticks_18 : decode cX9_ticks 18 = .ok (.iconst 2, 1) := by decide +kernel
theorem dX9_ticks_19 : decode cX9_ticks 19 = .ok (.iaload, 1) := by decide +kernel
theorem dX9_ticks_20 : decode cX9_ticks 20 = .ok (.ireturn, 1) := by decide +kernel
theorem dX9_holds_0 : decode cX9_holds 0 = .ok (.aload_n 0, 1) := by decide +kernel
theorem dX9_holds_1 : decode cX9_holds 1 = .ok (.getfield 7, 3) := by decide +kernel
theorem dX9_holds_4 : decode cX9_holds 4 = .ok (.iconst 3, 1) := by decide +kernel
theorem dX9_holds_5 : decode cX9_holds 5 = .ok (.iload_n 1, 1) := by decide +kernel
theorem dX9_holds_6 : decode cX9_holds 6 = .ok (.iadd, 1) := by decide +kernel
theorem dX9_holds_7 : decode cX9_holds 7 = .ok (.iload_n 2, 1) := by decide +kernel
theorem dX9_holds_8 : decode cX9_holds 8 = .ok (.iastore, 1) := by decide +kernel
theorem dX9_holds_9 : decode cX9_holds 9 = .ok (.aload_n 0, 1) := by decide +kernel
theorem dX9_holds_10 : decode cX9_holds 10 = .ok (.invokevirtual 103, 3) := by decide +kernel
theorem dX9_holds_13 : decode cX9_holds 13 = .ok (.aload_n 0, 1) := by decide +kernel
theorem dX9_holds_14 : decode cX9_holds 14 = .ok (.invokevirtual 106, 3) := by decide +kernel
theorem dX9_holds_17 : decode cX9_holds 17 = .ok (.return_, 1) := by decide +kernel
theorem dX9_canHold_0 : decode cX9_canHold 0 = .ok (.iload_n 0, 1) := by decide +kernel
theorem dX9_canHold_1 : decode cX9_canHold 1 = .ok (.ifCond .ne 13, 3) := by decide +kernel
theorem dX9_canHold_4 : decode cX9_canHold 4 = .ok (.iload_n 1, 1) := by decide +kernel
theorem dX9_canHold_5 : decode cX9_canHold 5 = .ok (.iconst 1, 1) := by decide +kernel
theorem dX9_canHold_6 : decode cX9_canHold 6 = .ok (.bipush 16, 2) := by decide +kernel
theorem dX9_canHold_8 : decode cX9_canHold 8 = .ok (.invokestatic 39, 3) := by decide +kernel
theorem dX9_canHold_11 : decode cX9_canHold 11 = .ok (.goto 23, 3) := by decide +kernel
theorem dX9_canHold_14 : decode cX9_canHold 14 = .ok (.iload_n 0, 1) := by decide +kernel
theorem dX9_canHold_15 : decode cX9_canHold 15 = .ok (.iconst 1, 1) := by decide +kernel
theorem dX9_canHold_16 : decode cX9_canHold 16 = .ok (.if_icmp .ne 17, 3) := by decide +kernel
theorem dX9_canHold_19 : decode cX9_canHold 19 = .ok (.iload_n 1, 1) := by decide +kernel
theorem dX9_canHold_20 : decode cX9_canHold 20 = .ok (.iconst 0, 1) := by decide +kernel
theorem dX9_canHold_21 : decode cX9_canHold 21 = .ok (.bipush 99, 2) := by decide +kernel
theorem dX9_canHold_23 : decode cX9_canHold 23 = .ok (.invokestatic 39, 3) := by decide +kernel
theorem dX9_canHold_26 : decode cX9_canHold 26 = .ok (.ifCond .eq 7, 3) := by decide +kernel
theorem dX9_canHold_29 : decode cX9_canHold 29 = .ok (.iconst 1, 1) := by decide +kernel
theorem dX9_canHold_30 : decode cX9_canHold 30 = .ok (.goto 4, 3) := by decide +kernel
theorem dX9_canHold_33 : decode cX9_canHold 33 = .ok (.iconst 0, 1) := by decide +kernel
theorem dX9_canHold_34 : decode cX9_canHold 34 = .ok (.ireturn, 1) := by decide +kernel
theorem dX9_size_0 : decode cX9_size 0 = .ok (.aload_n 0, 1) := by decide +kernel
theorem dX9_size_1 : decode cX9_size 1 = .ok (.iconst 0, 1) := by decide +kernel
theorem dX9_size_2 : decode cX9_size 2 = .ok (.putfield 35, 3) := by decide +kernel
theorem dX9_size_5 : decode cX9_size 5 = .ok (.iload_n 1, 1) := by decide +kernel
theorem dX9_size_6 : decode cX9_size 6 = .ok (.invokestatic 109, 3) := by decide +kernel
theorem dX9_size_9 : decode cX9_size 9 = .ok (.ifCond .eq 13, 3) := by decide +kernel
theorem dX9_size_12 : decode cX9_size 12 = .ok (.aload_n 0, 1) := by decide +kernel
theorem dX9_size_13 : decode cX9_size 13 = .ok (.getfield 7, 3) := by decide +kernel
theorem dX9_size_16 : decode cX9_size 16 = .ok (.iconst 0, 1) := by decide +kernel
theorem dX9_size_17 : decode cX9_size 17 = .ok (.iaload, 1) := by decide +kernel
theorem dX9_size_18 : decode cX9_size 18 = .ok (.iload_n 1, 1) := by decide +kernel
theorem dX9_size_19 : decode cX9_size 19 = .ok (.if_icmp .ne 5, 3) := by decide +kernel
theorem dX9_size_22 : decode cX9_size 22 = .ok (.iconst 0, 1) := by decide +kernel
theorem dX9_size_23 : decode cX9_size 23 = .ok (.ireturn, 1) := by decide +kernel
theorem dX9_size_24 : decode cX9_size 24 = .ok (.aload_n 0, 1) := by decide +kernel
theorem dX9_size_25 : decode cX9_size 25 = .ok (.iload_n 1, 1) := by decide +kernel
theorem dX9_size_26 : decode cX9_size 26 = .ok (.invokevirtual 113, 3) := by decide +kernel
theorem dX9_size_29 : decode cX9_size 29 = .ok (.iconst 1, 1) := by decide +kernel
theorem dX9_size_30 : decode cX9_size 30 = .ok (.ireturn, 1) := by decide +kernel
theorem dX9_back_0 : decode cX9_back 0 = .ok (.aload_n 0, 1) := by decide +kernel
theorem dX9_back_1 : decode cX9_back 1 = .ok (.iconst 0, 1) := by decide +kernel
theorem dX9_back_2 : decode cX9_back 2 = .ok (.putfield 35, 3) := by decide +kernel
theorem dX9_back_5 : decode cX9_back 5 = .ok (.iload_n 1, 1) := by decide +kernel
theorem dX9_back_6 : decode cX9_back 6 = .ok (.iconst 0, 1) := by decide +kernel
theorem dX9_back_7 : decode cX9_back 7 = .ok (.sipush 9999, 3) := by decide +kernel
theorem dX9_back_10 : decode cX9_back 10 = .ok (.invokestatic 39, 3) := by decide +kernel
theorem dX9_back_13 : decode cX9_back 13 = .ok (.ifCond .eq 21, 3) := by decide +kernel
theorem dX9_back_16 : decode cX9_back 16 = .ok (.iload_n 2, 1) := by decide +kernel
theorem dX9_back_17 : decode cX9_back 17 = .ok (.iconst 1, 1) := by decide +kernel
theorem dX9_back_18 : decode cX9_back 18 = .ok (.bipush 9, 2) := by decide +kernel
theorem dX9_back_20 : decode cX9_back 20 = .ok (.invokestatic 39, 3) := by decide +kernel
theorem dX9_back_23 : decode cX9_back 23 = .ok (.ifCond .eq 11, 3) := by decide +kernel
theorem dX9_back_26 : decode cX9_back 26 = .ok (.aload_n 0, 1) := by decide +kernel
theorem dX9_back_27 : decode cX9_back 27 = .ok (.iload_n 1, 1) := by decide +kernel
theorem dX9_back_28 : decode cX9_back 28 = .ok (.invokevirtual 116, 3) := by decide +kernel
theorem dX9_back_31 : decode cX9_back 31 = .ok (.ifCond .eq 5, 3) := by decide +kernel
theorem dX9_back_34 : decode cX9_back 34 = .ok (.iconst (-1), 1) := by decide +kernel
theorem dX9_back_35 : decode cX9_back 35 = .ok (.ireturn, 1) := by decide +kernel
theorem dX9_back_36 : decode cX9_back 36 = .ok (.aload_n 0, 1) := by decide +kernel
theorem dX9_back_37 : decode cX9_back 37 = .ok (.getfield 7, 3) := by decide +kernel
theorem dX9_back_40 : decode cX9_back 40 = .ok (.iconst 1, 1) := by decide +kernel
theorem dX9_back_41 : decode cX9_back 41 = .ok (.iaload, 1) := by decide +kernel
theorem dX9_back_42 : decode cX9_back 42 = .ok (.bipush 8, 2) := by decide +kernel
theorem dX9_back_44 : decode cX9_back 44 = .ok (.if_icmp .ne 8, 3) := by decide +kernel
theorem dX9_back_47 : decode cX9_back 47 = .ok (.bipush (-2), 2) := by decide +kernel
theorem dX9_back_49 : decode cX9_back 49 = .ok (.goto 9, 3) := by decide +kernel
theorem dX9_back_52 : decode cX9_back 52 = .ok (.aload_n 0, 1) := by decide +kernel
theorem dX9_back_53 : decode cX9_back 53 = .ok (.iload_n 1, 1) := by decide +kernel
theorem dX9_back_54 : decode cX9_back 54 = .ok (.iload_n 2, 1) := by decide +kernel
theorem dX9_back_55 : decode cX9_back 55 = .ok (.invokevirtual 119, 3) := by decide +kernel
theorem dX9_back_58 : decode cX9_back 58 = .ok (.ireturn, 1) := by decide +kernel
theorem dX9_weigh_0 : decode cX9_weigh 0 = .ok (.aload_n 0, 1) := by decide +kernel
theorem dX9_weigh_1 : decode cX9_weigh 1 = .ok (.iconst 0, 1) := by decide +kernel
theorem dX9_weigh_2 : decode cX9_weigh 2 = .ok (.putfield 35, 3) := by decide +kernel
theorem dX9_weigh_5 : decode cX9_weigh 5 = .ok (.aload_n 0, 1) := by decide +kernel
theorem dX9_weigh_6 : decode cX9_weigh 6 = .ok (.iload_n 1, 1) := by decide +kernel
theorem dX9_weigh_7 : decode cX9_weigh 7 = .ok (.invokevirtual 122, 3) := by decide +kernel
theorem dX9_weigh_10 : decode cX9_weigh 10 = .ok (.ifCond .eq 26, 3) := by decide +kernel
theorem dX9_weigh_13 : decode cX9_weigh 13 = .ok (.iload_n 2, 1) := by decide +kernel
theorem dX9_weigh_14 : decode cX9_weigh 14 = .ok (.iconst 1, 1) := by decide +kernel
theorem dX9_weigh_15 : decode cX9_weigh 15 = .ok (.bipush 9, 2) := by decide +kernel
theorem dX9_weigh_17 : decode cX9_weigh 17 = .ok (.invokestatic 39, 3) := by decide +kernel
theorem dX9_weigh_20 : decode cX9_weigh 20 = .ok (.ifCond .eq 16, 3) := by decide +kernel
theorem dX9_weigh_23 : decode cX9_weigh 23 = .ok (.aload_n 0, 1) := by decide +kernel
theorem dX9_weigh_24 : decode cX9_weigh 24 = .ok (.getfield 7, 3) := by decide +kernel
theorem dX9_weigh_27 : decode cX9_weigh 27 = .ok (.bipush 13, 2) := by decide +kernel
theorem dX9_weigh_29 : decode cX9_weigh 29 = .ok (.iload_n 1, 1) := by decide +kernel
theorem dX9_weigh_30 : decode cX9_weigh 30 = .ok (.iadd, 1) := by decide +kernel
theorem dX9_weigh_31 : decode cX9_weigh 31 = .ok (.iaload, 1) := by decide +kernel
theorem dX9_weigh_32 : decode cX9_weigh 32 = .ok (.iload_n 2, 1) := by decide +kernel
theorem dX9_weigh_33 : decode cX9_weigh 33 = .ok (.if_icmp .ne 5, 3) := by decide +kernel
theorem dX9_weigh_36 : decode cX9_weigh 36 = .ok (.iconst 0, 1) := by decide +kernel
theorem dX9_weigh_37 : decode cX9_weigh 37 = .ok (.ireturn, 1) := by decide +kernel
theorem dX9_weigh_38 : decode cX9_weigh 38 = .ok (.aload_n 0, 1) := by decide +kernel
theorem dX9_weigh_39 : decode cX9_weigh 39 = .ok (.getfield 7, 3) := by decide +kernel
theorem dX9_weigh_42 : decode cX9_weigh 42 = .ok (.bipush 13, 2) := by decide +kernel
theorem dX9_weigh_44 : decode cX9_weigh 44 = .ok (.iload_n 1, 1) := by decide +kernel
theorem dX9_weigh_45 : decode cX9_weigh 45 = .ok (.iadd, 1) := by decide +kernel
theorem dX9_weigh_46 : decode cX9_weigh 46 = .ok (.iload_n 2, 1) := by decide +kernel
theorem dX9_weigh_47 : decode cX9_weigh 47 = .ok (.iastore, 1) := by decide +kernel
theorem dX9_weigh_48 : decode cX9_weigh 48 = .ok (.iconst 1, 1) := by decide +kernel
theorem dX9_weigh_49 : decode cX9_weigh 49 = .ok (.ireturn, 1) := by decide +kernel
theorem dX9_see_0 : decode cX9_see 0 = .ok (.aload_n 0, 1) := by decide +kernel
theorem dX9_see_1 : decode cX9_see 1 = .ok (.iconst 0, 1) := by decide +kernel
theorem dX9_see_2 : decode cX9_see 2 = .ok (.putfield 35, 3) := by decide +kernel
theorem dX9_see_5 : decode cX9_see 5 = .ok (.iload_n 1, 1) := by decide +kernel
theorem dX9_see_6 : decode cX9_see 6 = .ok (.iconst (-1), 1) := by decide +kernel
theorem dX9_see_7 : decode cX9_see 7 = .ok (.if_icmp .eq 10, 3) := by decide +kernel
theorem dX9_see_10 : decode cX9_see 10 = .ok (.iload_n 1, 1) := by decide +kernel
theorem dX9_see_11 : decode cX9_see 11 = .ok (.invokestatic 125, 3) := by decide +kernel
theorem dX9_see_14 : decode cX9_see 14 = .ok (.ifCond .eq 30, 3) := by decide +kernel
theorem dX9_see_17 : decode cX9_see 17 = .ok (.aload_n 0, 1) := by decide +kernel
theorem dX9_see_18 : decode cX9_see 18 = .ok (.iload_n 2, 1) := by decide +kernel
theorem dX9_see_19 : decode cX9_see 19 = .ok (.invokevirtual 122, 3) := by decide +kernel
theorem dX9_see_22 : decode cX9_see 22 = .ok (.ifCond .eq 22, 3) := by decide +kernel
theorem dX9_see_25 : decode cX9_see 25 = .ok (.iload_n 3, 1) := by decide +kernel
theorem dX9_see_26 : decode cX9_see 26 = .ok (.iconst 0, 1) := by decide +kernel
theorem dX9_see_27 : decode cX9_see 27 = .ok (.iconst 2, 1) := by decide +kernel
theorem dX9_see_28 : decode cX9_see 28 = .ok (.invokestatic 39, 3) := by decide +kernel
theorem dX9_see_31 : decode cX9_see 31 = .ok (.ifCond .eq 13, 3) := by decide +kernel
theorem dX9_see_34 : decode cX9_see 34 = .ok (.aload_n 0, 1) := by decide +kernel
theorem dX9_see_35 : decode cX9_see 35 = .ok (.iload_n 1, 1) := by decide +kernel
theorem dX9_see_36 : decode cX9_see 36 = .ok (.iload_n 2, 1) := by decide +kernel
theorem dX9_see_37 : decode cX9_see 37 = .ok (.iload_n 3, 1) := by decide +kernel
theorem dX9_see_38 : decode cX9_see 38 = .ok (.invokevirtual 128, 3) := by decide +kernel
theorem dX9_see_41 : decode cX9_see 41 = .ok (.goto 4, 3) := by decide +kernel
theorem dX9_see_44 : decode cX9_see 44 = .ok (.iconst (-1), 1) := by decide +kernel
theorem dX9_see_45 : decode cX9_see 45 = .ok (.ireturn, 1) := by decide +kernel
theorem dX9_set_0 : decode cX9_set 0 = .ok (.aload_n 0, 1) := by decide +kernel
theorem dX9_set_1 : decode cX9_set 1 = .ok (.iconst 0, 1) := by decide +kernel
theorem dX9_set_2 : decode cX9_set 2 = .ok (.putfield 35, 3) := by decide +kernel
theorem dX9_set_5 : decode cX9_set 5 = .ok (.iload_n 1, 1) := by decide +kernel
theorem dX9_set_6 : decode cX9_set 6 = .ok (.iload_n 2, 1) := by decide +kernel
theorem dX9_set_7 : decode cX9_set 7 = .ok (.invokestatic 132, 3) := by decide +kernel
theorem dX9_set_10 : decode cX9_set 10 = .ok (.ifCond .eq 15, 3) := by decide +kernel
theorem dX9_set_13 : decode cX9_set 13 = .ok (.aload_n 0, 1) := by decide +kernel
theorem dX9_set_14 : decode cX9_set 14 = .ok (.getfield 7, 3) := by decide +kernel
theorem dX9_set_17 : decode cX9_set 17 = .ok (.iconst 3, 1) := by decide +kernel
theorem dX9_set_18 : decode cX9_set 18 = .ok (.iload_n 1, 1) := by decide +kernel
theorem dX9_set_19 : decode cX9_set 19 = .ok (.iadd, 1) := by decide +kernel
theorem dX9_set_20 : decode cX9_set 20 = .ok (.iaload, 1) := by decide +kernel
theorem dX9_set_21 : decode cX9_set 21 = .ok (.iload_n 2, 1) := by decide +kernel
theorem dX9_set_22 : decode cX9_set 22 = .ok (.if_icmp .ne 5, 3) := by decide +kernel
theorem dX9_set_25 : decode cX9_set 25 = .ok (.iconst 0, 1) := by decide +kernel
theorem dX9_set_26 : decode cX9_set 26 = .ok (.ireturn, 1) := by decide +kernel
theorem dX9_set_27 : decode cX9_set 27 = .ok (.aload_n 0, 1) := by decide +kernel
theorem dX9_set_28 : decode cX9_set 28 = .ok (.iload_n 1, 1) := by decide +kernel
theorem dX9_set_29 : decode cX9_set 29 = .ok (.iload_n 2, 1) := by decide +kernel
theorem dX9_set_30 : decode cX9_set 30 = .ok (.invokevirtual 136, 3) := by decide +kernel
theorem dX9_set_33 : decode cX9_set 33 = .ok (.iconst 1, 1) := by decide +kernel
theorem dX9_set_34 : decode cX9_set 34 = .ok (.ireturn, 1) := by decide +kernel
theorem dX9_tick_0 : decode cX9_tick 0 = .ok (.aload_n 0, 1) := by decide +kernel
theorem dX9_tick_1 : decode cX9_tick 1 = .ok (.iconst 0, 1) := by decide +kernel
theorem dX9_tick_2 : decode cX9_tick 2 = .ok (.putfield 35, 3) := by decide +kernel
theorem dX9_tick_5 : decode cX9_tick 5 = .ok (.iload_n 1, 1) := by decide +kernel
theorem dX9_tick_6 : decode cX9_tick 6 = .ok (.iconst 1, 1) := by decide +kernel
theorem dX9_tick_7 : decode cX9_tick 7 = .ok (.sipush 999, 3) := by decide +kernel
theorem dX9_tick_10 : decode cX9_tick 10 = .ok (.invokestatic 39, 3) := by decide +kernel
theorem dX9_tick_13 : decode cX9_tick 13 = .ok (.ifCond .eq 11, 3) := by decide +kernel
theorem dX9_tick_16 : decode cX9_tick 16 = .ok (.aload_n 0, 1) := by decide +kernel
theorem dX9_tick_17 : decode cX9_tick 17 = .ok (.iload_n 1, 1) := by decide +kernel
theorem dX9_tick_18 : decode cX9_tick 18 = .ok (.invokevirtual 139, 3) := by decide +kernel
theorem dX9_tick_21 : decode cX9_tick 21 = .ok (.goto 4, 3) := by decide +kernel
theorem dX9_tick_24 : decode cX9_tick 24 = .ok (.iconst (-1), 1) := by decide +kernel
theorem dX9_tick_25 : decode cX9_tick 25 = .ok (.ireturn, 1) := by decide +kernel
theorem dX9_isFlow_0 : decode cX9_isFlow 0 = .ok (.iload_n 0, 1) := by decide +kernel
theorem dX9_isFlow_1 : decode cX9_isFlow 1 = .ok (.iconst 0, 1) := by decide +kernel
theorem dX9_isFlow_2 : decode cX9_isFlow 2 = .ok (.sipush 9999, 3) := by decide +kernel
theorem dX9_isFlow_5 : decode cX9_isFlow 5 = .ok (.invokestatic 39, 3) := by decide +kernel
theorem dX9_isFlow_8 : decode cX9_isFlow 8 = .ok (.ireturn, 1) := by decide +kernel
theorem dX9_pack_0 : decode cX9_pack 0 = .ok (.aload_n 0, 1) := by decide +kernel
theorem dX9_pack_1 : decode cX9_pack 1 = .ok (.iconst 0, 1) := by decide +kernel
theorem dX9_pack_2 : decode cX9_pack 2 = .ok (.putfield 35, 3) := by decide +kernel
theorem dX9_pack_5 : decode cX9_pack 5 = .ok (.iload_n 1, 1) := by decide +kernel
theorem dX9_pack_6 : decode cX9_pack 6 = .ok (.invokestatic 125, 3) := by decide +kernel
theorem dX9_pack_9 : decode cX9_pack 9 = .ok (.ifCond .eq 19, 3) := by decide +kernel
theorem dX9_pack_12 : decode cX9_pack 12 = .ok (.iload_n 2, 1) := by decide +kernel
theorem dX9_pack_13 : decode cX9_pack 13 = .ok (.invokestatic 142, 3) := by decide +kernel
theorem dX9_pack_16 : decode cX9_pack 16 = .ok (.ifCond .eq 12, 3) := by decide +kernel
theorem dX9_pack_19 : decode cX9_pack 19 = .ok (.aload_n 0, 1) := by decide +kernel
theorem dX9_pack_20 : decode cX9_pack 20 = .ok (.iload_n 1, 1) := by decide +kernel
theorem dX9_pack_21 : decode cX9_pack 21 = .ok (.iload_n 2, 1) := by decide +kernel
theorem dX9_pack_22 : decode cX9_pack 22 = .ok (.invokevirtual 145, 3) := by decide +kernel
theorem dX9_pack_25 : decode cX9_pack 25 = .ok (.goto 5, 3) := by decide +kernel
theorem dX9_pack_28 : decode cX9_pack 28 = .ok (.bipush (-2), 2) := by decide +kernel
theorem dX9_pack_30 : decode cX9_pack 30 = .ok (.ireturn, 1) := by decide +kernel
theorem dX9_keep_0 : decode cX9_keep 0 = .ok (.aload_n 0, 1) := by decide +kernel
theorem dX9_keep_1 : decode cX9_keep 1 = .ok (.iconst 0, 1) := by decide +kernel
theorem dX9_keep_2 : decode cX9_keep 2 = .ok (.putfield 35, 3) := by decide +kernel
theorem dX9_keep_5 : decode cX9_keep 5 = .ok (.iload_n 1, 1) := by decide +kernel
theorem dX9_keep_6 : decode cX9_keep 6 = .ok (.invokestatic 125, 3) := by decide +kernel
theorem dX9_keep_9 : decode cX9_keep 9 = .ok (.ifCond .ne 5, 3) := by decide +kernel
theorem dX9_keep_12 : decode cX9_keep 12 = .ok (.iconst 0, 1) := by decide +kernel
theorem dX9_keep_13 : decode cX9_keep 13 = .ok (.ireturn, 1) := by decide +kernel
theorem dX9_keep_14 : decode cX9_keep 14 = .ok (.aload_n 0, 1) := by decide +kernel
theorem dX9_keep_15 : decode cX9_keep 15 = .ok (.iload_n 1, 1) := by decide +kernel
theorem dX9_keep_16 : decode cX9_keep 16 = .ok (.invokevirtual 94, 3) := by decide +kernel
theorem dX9_keep_19 : decode cX9_keep 19 = .ok (.iconst 0, 1) := by decide +kernel
theorem dX9_keep_20 : decode cX9_keep 20 = .ok (.istore_n 2, 1) := by decide +kernel
theorem dX9_keep_21 : decode cX9_keep 21 = .ok (.iload_n 2, 1) := by decide +kernel
theorem dX9_keep_22 : decode cX9_keep 22 = .ok (.aload_n 0, 1) := by decide +kernel
theorem dX9_keep_23 : decode cX9_keep 23 = .ok (.getfield 7, 3) := by decide +kernel
theorem dX9_keep_26 : decode cX9_keep 26 = .ok (.iconst 0, 1) := by decide +kernel
theorem dX9_keep_27 : decode cX9_keep 27 = .ok (.iaload, 1) := by decide +kernel
theorem dX9_keep_28 : decode cX9_keep 28 = .ok (.if_icmp .ge 30, 3) := by decide +kernel
theorem dX9_keep_31 : decode cX9_keep 31 = .ok (.aload_n 0, 1) := by decide +kernel
theorem dX9_keep_32 : decode cX9_keep 32 = .ok (.getfield 7, 3) := by decide +kernel
theorem dX9_keep_35 : decode cX9_keep 35 = .ok (.sipush 253, 3) := by decide +kernel
theorem dX9_keep_38 : decode cX9_keep 38 = .ok (.bipush 97, 2) := by decide +kernel
theorem dX9_keep_40 : decode cX9_keep 40 = .ok (.iload_n 1, 1) := by decide +kernel
theorem dX9_keep_41 : decode cX9_keep 41 = .ok (.imul, 1) := by decide +kernel
theorem dX9_keep_42 : decode cX9_keep 42 = .ok (.iadd, 1) := by decide +kernel
theorem dX9_keep_43 : decode cX9_keep 43 = .ok (.iload_n 2, 1) := by decide +kernel
theorem dX9_keep_44 : decode cX9_keep 44 = .ok (.iadd, 1) := by decide +kernel
theorem dX9_keep_45 : decode cX9_keep 45 = .ok (.aload_n 0, 1) := by decide +kernel
theorem dX9_keep_46 : decode cX9_keep 46 = .ok (.getfield 16, 3) := by decide +kernel
theorem dX9_keep_49 : decode cX9_keep 49 = .ok (.iload_n 2, 1) := by decide +kernel
theorem dX9_keep_50 : decode cX9_keep 50 = .ok (.iaload, 1) := by decide +kernel
theorem dX9_keep_51 : decode cX9_keep 51 = .ok (.iastore, 1) := by decide +kernel
theorem dX9_keep_52 : decode cX9_keep 52 = .ok (.iinc 2 1, 3) := by decide +kernel
theorem dX9_keep_55 : decode cX9_keep 55 = .ok (.goto (-34), 3) := by decide +kernel
theorem dX9_keep_58 : decode cX9_keep 58 = .ok (.aload_n 0, 1) := by decide +kernel
theorem dX9_keep_59 : decode cX9_keep 59 = .ok (.getfield 7, 3) := by decide +kernel
theorem dX9_keep_62 : decode cX9_keep 62 = .ok (.sipush 249, 3) := by decide +kernel
theorem dX9_keep_65 : decode cX9_keep 65 = .ok (.iload_n 1, 1) := by decide +kernel
theorem dX9_keep_66 : decode cX9_keep 66 = .ok (.iadd, 1) := by decide +kernel
theorem dX9_keep_67 : decode cX9_keep 67 = .ok (.iconst 1, 1) := by decide +kernel
theorem dX9_keep_68 : decode cX9_keep 68 = .ok (.iastore, 1) := by decide +kernel
theorem dX9_keep_69 : decode cX9_keep 69 = .ok (.iconst 1, 1) := by decide +kernel
theorem dX9_keep_70 : decode cX9_keep 70 = .ok (.ireturn, 1) := by decide +kernel
theorem dX9_four_0 : decode cX9_four 0 = .ok (.bipush 24, 2) := by decide +kernel
theorem dX9_four_2 : decode cX9_four 2 = .ok (.istore_n 2, 1) := by decide +kernel
theorem dX9_four_3 : decode cX9_four 3 = .ok (.iload_n 2, 1) := by decide +kernel
theorem dX9_four_4 : decode cX9_four 4 = .ok (.ifCond .lt 35, 3) := by decide +kernel
theorem dX9_four_7 : decode cX9_four 7 = .ok (.aload_n 0, 1) := by decide +kernel
theorem dX9_four_8 : decode cX9_four 8 = .ok (.getfield 32, 3) := by decide +kernel
theorem dX9_four_11 : decode cX9_four 11 = .ok (.aload_n 0, 1) := by decide +kernel
theorem dX9_four_12 : decode cX9_four 12 = .ok (.getfield 148, 3) := by decide +kernel
theorem dX9_four_15 : decode cX9_four 15 = .ok (.iload_n 1, 1) := by decide +kernel
theorem dX9_four_16 : decode cX9_four 16 = .ok (.iload_n 2, 1) := by decide +kernel
theorem dX9_four_17 : decode cX9_four 17 = .ok (.ishr, 1) := by decide +kernel
theorem dX9_four_18 : decode cX9_four 18 = .ok (.sipush 255, 3) := by decide +kernel
theorem dX9_four_21 : decode cX9_four 21 = .ok (.iand, 1) := by decide +kernel
theorem dX9_four_22 : decode cX9_four 22 = .ok (.iastore, 1) := by decide +kernel
theorem dX9_four_23 : decode cX9_four 23 = .ok (.aload_n 0, 1) := by decide +kernel
theorem dX9_four_24 : decode cX9_four 24 = .ok (.dup, 1) := by decide +kernel
theorem dX9_four_25 : decode cX9_four 25 = .ok (.getfield 148, 3) := by decide +kernel
theorem dX9_four_28 : decode cX9_four 28 = .ok (.iconst 1, 1) := by decide +kernel
theorem dX9_four_29 : decode cX9_four 29 = .ok (.iadd, 1) := by decide +kernel
theorem dX9_four_30 : decode cX9_four 30 = .ok (.putfield 148, 3) := by decide +kernel
theorem dX9_four_33 : decode cX9_four 33 = .ok (.iinc 2 (-8), 3) := by decide +kernel
theorem dX9_four_36 : decode cX9_four 36 = .ok (.goto (-33), 3) := by decide +kernel
theorem dX9_four_39 : decode cX9_four 39 = .ok (.return_, 1) := by decide +kernel
theorem dX9_feed_0 : decode cX9_feed 0 = .ok (.aload_n 0, 1) := by decide +kernel
theorem dX9_feed_1 : decode cX9_feed 1 = .ok (.iconst 0, 1) := by decide +kernel
theorem dX9_feed_2 : decode cX9_feed 2 = .ok (.putfield 35, 3) := by decide +kernel
theorem dX9_feed_5 : decode cX9_feed 5 = .ok (.aload_n 0, 1) := by decide +kernel
theorem dX9_feed_6 : decode cX9_feed 6 = .ok (.getfield 148, 3) := by decide +kernel
theorem dX9_feed_9 : decode cX9_feed 9 = .ok (.bipush 20, 2) := by decide +kernel
theorem dX9_feed_11 : decode cX9_feed 11 = .ok (.iadd, 1) := by decide +kernel
theorem dX9_feed_12 : decode cX9_feed 12 = .ok (.sipush 400, 3) := by decide +kernel
theorem dX9_feed_15 : decode cX9_feed 15 = .ok (.if_icmp .le 5, 3) := by decide +kernel
theorem dX9_feed_18 : decode cX9_feed 18 = .ok (.iconst (-1), 1) := by decide +kernel
theorem dX9_feed_19 : decode cX9_feed 19 = .ok (.ireturn, 1) := by decide +kernel
theorem dX9_feed_20 : decode cX9_feed 20 = .ok (.aload_n 0, 1) := by decide +kernel
theorem dX9_feed_21 : decode cX9_feed 21 = .ok (.iload_n 1, 1) := by decide +kernel
theorem dX9_feed_22 : decode cX9_feed 22 = .ok (.invokevirtual 151, 3) := by decide +kernel
theorem dX9_feed_25 : decode cX9_feed 25 = .ok (.aload_n 0, 1) := by decide +kernel
theorem dX9_feed_26 : decode cX9_feed 26 = .ok (.iload_n 2, 1) := by decide +kernel
theorem dX9_feed_27 : decode cX9_feed 27 = .ok (.invokevirtual 151, 3) := by decide +kernel
theorem dX9_feed_30 : decode cX9_feed 30 = .ok (.aload_n 0, 1) := by decide +kernel
theorem dX9_feed_31 : decode cX9_feed 31 = .ok (.iload_n 3, 1) := by decide +kernel
theorem dX9_feed_32 : decode cX9_feed 32 = .ok (.invokevirtual 151, 3) := by decide +kernel
theorem dX9_feed_35 : decode cX9_feed 35 = .ok (.aload_n 0, 1) := by decide +kernel
theorem dX9_feed_36 : decode cX9_feed 36 = .ok (.iload 4, 2) := by decide +kernel
theorem dX9_feed_38 : decode cX9_feed 38 = .ok (.invokevirtual 151, 3) := by decide +kernel
theorem dX9_feed_41 : decode cX9_feed 41 = .ok (.aload_n 0, 1) := by decide +kernel
theorem dX9_feed_42 : decode cX9_feed 42 = .ok (.iload 5, 2) := by decide +kernel
theorem dX9_feed_44 : decode cX9_feed 44 = .ok (.invokevirtual 151, 3) := by decide +kernel
theorem dX9_feed_47 : decode cX9_feed 47 = .ok (.aload_n 0, 1) := by decide +kernel
theorem dX9_feed_48 : decode cX9_feed 48 = .ok (.getfield 148, 3) := by decide +kernel
theorem dX9_feed_51 : decode cX9_feed 51 = .ok (.ireturn, 1) := by decide +kernel
theorem dX9_end_0 : decode cX9_end 0 = .ok (.aload_n 0, 1) := by decide +kernel
theorem dX9_end_1 : decode cX9_end 1 = .ok (.iconst 0, 1) := by decide +kernel
theorem dX9_end_2 : decode cX9_end 2 = .ok (.putfield 35, 3) := by decide +kernel
theorem dX9_end_5 : decode cX9_end 5 = .ok (.iload_n 1, 1) := by decide +kernel
theorem dX9_end_6 : decode cX9_end 6 = .ok (.iconst 0, 1) := by decide +kernel
theorem dX9_end_7 : decode cX9_end 7 = .ok (.aload_n 0, 1) := by decide +kernel
theorem dX9_end_8 : decode cX9_end 8 = .ok (.getfield 148, 3) := by decide +kernel
theorem dX9_end_11 : decode cX9_end 11 = .ok (.invokestatic 39, 3) := by decide +kernel
theorem dX9_end_14 : decode cX9_end 14 = .ok (.ifCond .ne 5, 3) := by decide +kernel
theorem dX9_end_17 : decode cX9_end 17 = .ok (.iconst 0, 1) := by decide +kernel
theorem dX9_end_18 : decode cX9_end 18 = .ok (.ireturn, 1) := by decide +kernel
theorem dX9_end_19 : decode cX9_end 19 = .ok (.aload_n 0, 1) := by decide +kernel
theorem dX9_end_20 : decode cX9_end 20 = .ok (.iload_n 1, 1) := by decide +kernel
theorem dX9_end_21 : decode cX9_end 21 = .ok (.putfield 148, 3) := by decide +kernel
theorem dX9_end_24 : decode cX9_end 24 = .ok (.iconst 1, 1) := by decide +kernel
theorem dX9_end_25 : decode cX9_end 25 = .ok (.ireturn, 1) := by decide +kernel
theorem dX9_here_0 : decode cX9_here 0 = .ok (.aload_n 0, 1) := by decide +kernel
theorem dX9_here_1 : decode cX9_here 1 = .ok (.getfield 154, 3) := by decide +kernel
theorem dX9_here_4 : decode cX9_here 4 = .ok (.aload_n 0, 1) := by decide +kernel
theorem dX9_here_5 : decode cX9_here 5 = .ok (.getfield 148, 3) := by decide +kernel
theorem dX9_here_8 : decode cX9_here 8 = .ok (.if_icmp .ge 44, 3) := by decide +kernel
theorem dX9_here_11 : decode cX9_here 11 = .ok (.aload_n 0, 1) := by decide +kernel
theorem dX9_here_12 : decode cX9_here 12 = .ok (.getfield 32, 3) := by decide +kernel
theorem dX9_here_15 : decode cX9_here 15 = .ok (.aload_n 0, 1) := by decide +kernel
theorem dX9_here_16 : decode cX9_here 16 = .ok (.getfield 154, 3) := by decide +kernel
theorem dX9_here_19 : decode cX9_here 19 = .ok (.iaload, 1) := by decide +kernel
theorem dX9_here_20 : decode cX9_here 20 = .ok (.bipush 32, 2) := by decide +kernel
theorem dX9_here_22 : decode cX9_here 22 = .ok (.if_icmp .eq 17, 3) := by decide +kernel
theorem dX9_here_25 : decode cX9_here 25 = .ok (.aload_n 0, 1) := by decide +kernel
theorem dX9_here_26 : decode cX9_here 26 = .ok (.getfield 32, 3) := by decide +kernel
theorem dX9_here_29 : decode cX9_here 29 = .ok (.aload_n 0, 1) := by decide +kernel
theorem dX9_here_30 : decode cX9_here 30 = .ok (.getfield 154, 3) := by decide +kernel
theorem dX9_here_33 : decode cX9_here 33 = .ok (.iaload, 1) := by decide +kernel
theorem dX9_here_34 : decode cX9_here 34 = .ok (.bipush 10, 2) := by decide +kernel
theorem dX9_here_36 : decode cX9_here 36 = .ok (.if_icmp .ne 16, 3) := by decide +kernel
theorem dX9_here_39 : decode cX9_here 39 = .ok (.aload_n 0, 1) := by decide +kernel
theorem dX9_here_40 : decode cX9_here 40 = .ok (.dup, 1) := by decide +kernel
theorem dX9_here_41 : decode cX9_here 41 = .ok (.getfield 154, 3) := by decide +kernel
theorem dX9_here_44 : decode cX9_here 44 = .ok (.iconst 1, 1) := by decide +kernel
theorem dX9_here_45 : decode cX9_here 45 = .ok (.iadd, 1) := by decide +kernel
theorem dX9_here_46 : decode cX9_here 46 = .ok (.putfield 154, 3) := by decide +kernel
theorem dX9_here_49 : decode cX9_here 49 = .ok (.goto (-49), 3) := by decide +kernel
theorem dX9_here_52 : decode cX9_here 52 = .ok (.aload_n 0, 1) := by decide +kernel
theorem dX9_here_53 : decode cX9_here 53 = .ok (.getfield 154, 3) := by decide +kernel
theorem dX9_here_56 : decode cX9_here 56 = .ok (.aload_n 0, 1) := by decide +kernel
theorem dX9_here_57 : decode cX9_here 57 = .ok (.getfield 148, 3) := by decide +kernel
theorem dX9_here_60 : decode cX9_here 60 = .ok (.if_icmp .ge 15, 3) := by decide +kernel
theorem dX9_here_63 : decode cX9_here 63 = .ok (.aload_n 0, 1) := by decide +kernel
theorem dX9_here_64 : decode cX9_here 64 = .ok (.getfield 32, 3) := by decide +kernel
theorem dX9_here_67 : decode cX9_here 67 = .ok (.aload_n 0, 1) := by decide +kernel
theorem dX9_here_68 : decode cX9_here 68 = .ok (.getfield 154, 3) := by decide +kernel
theorem dX9_here_71 : decode cX9_here 71 = .ok (.iaload, 1) := by decide +kernel
theorem dX9_here_72 : decode cX9_here 72 = .ok (.goto 4, 3) := by decide +kernel
theorem dX9_here_75 : decode cX9_here 75 = .ok (.iconst (-1), 1) := by decide +kernel
theorem dX9_here_76 : decode cX9_here 76 = .ok (.ireturn, 1) := by decide +kernel
theorem dX9_fails_0 : decode cX9_fails 0 = .ok (.aload_n 0, 1) := by decide +kernel
theorem dX9_fails_1 : decode cX9_fails 1 = .ok (.iload_n 1, 1) := by decide +kernel
theorem dX9_fails_2 : decode cX9_fails 2 = .ok (.bipush 8, 2) := by decide +kernel
theorem dX9_fails_4 : decode cX9_fails 4 = .ok (.iload_n 2, 1) := by decide +kernel
theorem dX9_fails_5 : decode cX9_fails 5 = .ok (.imul, 1) := by decide +kernel
theorem dX9_fails_6 : decode cX9_fails 6 = .ok (.iadd, 1) := by decide +kernel
theorem dX9_fails_7 : decode cX9_fails 7 = .ok (.putfield 157, 3) := by decide +kernel
theorem dX9_fails_10 : decode cX9_fails 10 = .ok (.iconst 0, 1) := by decide +kernel
theorem dX9_fails_11 : decode cX9_fails 11 = .ok (.ireturn, 1) := by decide +kernel
theorem dX9_isWord_0 : decode cX9_isWord 0 = .ok (.aload_n 0, 1) := by decide +kernel
theorem dX9_isWord_1 : decode cX9_isWord 1 = .ok (.invokevirtual 160, 3) := by decide +kernel
theorem dX9_isWord_4 : decode cX9_isWord 4 = .ok (.bipush 97, 2) := by decide +kernel
theorem dX9_isWord_6 : decode cX9_isWord 6 = .ok (.bipush 122, 2) := by decide +kernel
theorem dX9_isWord_8 : decode cX9_isWord 8 = .ok (.invokestatic 39, 3) := by decide +kernel
theorem dX9_isWord_11 : decode cX9_isWord 11 = .ok (.ireturn, 1) := by decide +kernel
theorem dX9_readWord_0 : decode cX9_readWord 0 = .ok (.lconst 0, 1) := by decide +kernel
theorem dX9_readWord_1 : decode cX9_readWord 1 = .ok (.lstore_n 1, 1) := by decide +kernel
theorem dX9_readWord_2 : decode cX9_readWord 2 = .ok (.iconst 0, 1) := by decide +kernel
theorem dX9_readWord_3 : decode cX9_readWord 3 = .ok (.istore_n 3, 1) := by decide +kernel
theorem dX9_readWord_4 : decode cX9_readWord 4 = .ok (.aload_n 0, 1) := by decide +kernel
theorem dX9_readWord_5 : decode cX9_readWord 5 = .ok (.aload_n 0, 1) := by decide +kernel
theorem dX9_readWord_6 : decode cX9_readWord 6 = .ok (.getfield 154, 3) := by decide +kernel
theorem dX9_readWord_9 : decode cX9_readWord 9 = .ok (.putfield 163, 3) := by decide +kernel
theorem dX9_readWord_12 : decode cX9_readWord 12 = .ok (.aload_n 0, 1) := by decide +kernel
theorem dX9_readWord_13 : decode cX9_readWord 13 = .ok (.getfield 154, 3) := by decide +kernel
theorem dX9_readWord_16 : decode cX9_readWord 16 = .ok (.aload_n 0, 1) := by decide +kernel
theorem dX9_readWord_17 : decode cX9_readWord 17 = .ok (.getfield 148, 3) := by decide +kernel
theorem dX9_readWord_20 : decode cX9_readWord 20 = .ok (.if_icmp .ge 71, 3) := by decide +kernel
theorem dX9_readWord_23 : decode cX9_readWord 23 = .ok (.aload_n 0, 1) := by decide +kernel
theorem dX9_readWord_24 : decode cX9_readWord 24 = .ok (.getfield 32, 3) := by decide +kernel
theorem dX9_readWord_27 : decode cX9_readWord 27 = .ok (.aload_n 0, 1) := by decide +kernel
theorem dX9_readWord_28 : decode cX9_readWord 28 = .ok (.getfield 154, 3) := by decide +kernel
theorem dX9_readWord_31 : decode cX9_readWord 31 = .ok (.iaload, 1) := by decide +kernel
theorem dX9_readWord_32 : decode cX9_readWord 32 = .ok (.bipush 97, 2) := by decide +kernel
theorem dX9_readWord_34 : decode cX9_readWord 34 = .ok (.bipush 122, 2) := by decide +kernel
theorem dX9_readWord_36 : decode cX9_readWord 36 = .ok (.invokestatic 39, 3) := by decide +kernel
theorem dX9_readWord_39 : decode cX9_readWord 39 = .ok (.ifCond .eq 52, 3) := by decide +kernel
theorem dX9_readWord_42 : decode cX9_readWord 42 = .ok (.iload_n 3, 1) := by decide +kernel
theorem dX9_readWord_43 : decode cX9_readWord 43 = .ok (.bipush 6, 2) := by decide +kernel
theorem dX9_readWord_45 : decode cX9_readWord 45 = .ok (.if_icmp .ge 26, 3) := by decide +kernel
theorem dX9_readWord_48 : decode cX9_readWord 48 = .ok (.lload_n 1, 1) := by decide +kernel
theorem dX9_readWord_49 : decode cX9_readWord 49 = .ok (.ldc2_w 166, 3) := by decide +kernel
theorem dX9_readWord_52 : decode cX9_readWord 52 = .ok (.lmul, 1) := by decide +kernel
theorem dX9_readWord_53 : decode cX9_readWord 53 = .ok (.aload_n 0, 1) := by decide +kernel
theorem dX9_readWord_54 : decode cX9_readWord 54 = .ok (.getfield 32, 3) := by decide +kernel
theorem dX9_readWord_57 : decode cX9_readWord 57 = .ok (.aload_n 0, 1) := by decide +kernel
theorem dX9_readWord_58 : decode cX9_readWord 58 = .ok (.getfield 154, 3) := by decide +kernel
theorem dX9_readWord_61 : decode cX9_readWord 61 = .ok (.iaload, 1) := by decide +kernel
theorem dX9_readWord_62 : decode cX9_readWord 62 = .ok (.i2l, 1) := by decide +kernel
theorem dX9_readWord_63 : decode cX9_readWord 63 = .ok (.ladd, 1) := by decide +kernel
theorem dX9_readWord_64 : decode cX9_readWord 64 = .ok (.ldc2_w 168, 3) := by decide +kernel
theorem dX9_readWord_67 : decode cX9_readWord 67 = .ok (.lsub, 1) := by decide +kernel
theorem dX9_readWord_68 : decode cX9_readWord 68 = .ok (.goto 6, 3) := by decide +kernel
theorem dX9_readWord_71 : decode cX9_readWord 71 = .ok (.ldc2_w 170, 3) := by decide +kernel
theorem dX9_readWord_74 : decode cX9_readWord 74 = .ok (.lstore_n 1, 1) := by decide +kernel
theorem dX9_readWord_75 : decode cX9_readWord 75 = .ok (.iinc 3 1, 3) := by decide +kernel
theorem dX9_readWord_78 : decode cX9_readWord 78 = .ok (.aload_n 0, 1) := by decide +kernel
theorem dX9_readWord_79 : decode cX9_readWord 79 = .ok (.dup, 1) := by decide +kernel
theorem dX9_readWord_80 : decode cX9_readWord 80 = .ok (.getfield 154, 3) := by decide +kernel
theorem dX9_readWord_83 : decode cX9_readWord 83 = .ok (.iconst 1, 1) := by decide +kernel
theorem dX9_readWord_84 : decode cX9_readWord 84 = .ok (.iadd, 1) := by decide +kernel
theorem dX9_readWord_85 : decode cX9_readWord 85 = .ok (.putfield 154, 3) := by decide +kernel
theorem dX9_readWord_88 : decode cX9_readWord 88 = .ok (.goto (-76), 3) := by decide +kernel
theorem dX9_readWord_91 : decode cX9_readWord 91 = .ok (.lload_n 1, 1) := by decide +kernel
theorem dX9_readWord_92 : decode cX9_readWord 92 = .ok (.lreturn, 1) := by decide +kernel
theorem dX9_number_0 : decode cX9_number 0 = .ok (.aload_n 0, 1) := by decide +kernel
theorem dX9_number_1 : decode cX9_number 1 = .ok (.invokevirtual 160, 3) := by decide +kernel
theorem dX9_number_4 : decode cX9_number 4 = .ok (.bipush 48, 2) := by decide +kernel
theorem dX9_number_6 : decode cX9_number 6 = .ok (.bipush 57, 2) := by decide +kernel
theorem dX9_number_8 : decode cX9_number 8 = .ok (.invokestatic 39, 3) := by decide +kernel
theorem dX9_number_11 : decode cX9_number 11 = .ok (.ifCond .ne 13, 3) := by decide +kernel
theorem dX9_number_14 : decode cX9_number 14 = .ok (.aload_n 0, 1) := by decide +kernel
theorem dX9_number_15 : decode cX9_number 15 = .ok (.iconst 1, 1) := by decide +kernel
theorem dX9_number_16 : decode cX9_number 16 = .ok (.aload_n 0, 1) := by decide +kernel
theorem dX9_number_17 : decode cX9_number 17 = .ok (.getfield 154, 3) := by decide +kernel
theorem dX9_number_20 : decode cX9_number 20 = .ok (.invokevirtual 172, 3) := by decide +kernel
theorem dX9_number_23 : decode cX9_number 23 = .ok (.ireturn, 1) := by decide +kernel
theorem dX9_number_24 : decode cX9_number 24 = .ok (.aload_n 0, 1) := by decide +kernel
theorem dX9_number_25 : decode cX9_number 25 = .ok (.aload_n 0, 1) := by decide +kernel
theorem dX9_number_26 : decode cX9_number 26 = .ok (.getfield 154, 3) := by decide +kernel
theorem dX9_number_29 : decode cX9_number 29 = .ok (.putfield 163, 3) := by decide +kernel
theorem dX9_number_32 : decode cX9_number 32 = .ok (.aload_n 0, 1) := by decide +kernel
theorem dX9_number_33 : decode cX9_number 33 = .ok (.iconst 0, 1) := by decide +kernel
theorem dX9_number_34 : decode cX9_number 34 = .ok (.putfield 175, 3) := by decide +kernel
theorem dX9_number_37 : decode cX9_number 37 = .ok (.aload_n 0, 1) := by decide +kernel
theorem dX9_number_38 : decode cX9_number 38 = .ok (.getfield 154, 3) := by decide +kernel
theorem dX9_number_41 : decode cX9_number 41 = .ok (.aload_n 0, 1) := by decide +kernel
theorem dX9_number_42 : decode cX9_number 42 = .ok (.getfield 148, 3) := by decide +kernel
theorem dX9_number_45 : decode cX9_number 45 = .ok (.if_icmp .ge 79, 3) := by decide +kernel
theorem dX9_number_48 : decode cX9_number 48 = .ok (.aload_n 0, 1) := by decide +kernel
theorem dX9_number_49 : decode cX9_number 49 = .ok (.getfield 32, 3) := by decide +kernel
theorem dX9_number_52 : decode cX9_number 52 = .ok (.aload_n 0, 1) := by decide +kernel
theorem dX9_number_53 : decode cX9_number 53 = .ok (.getfield 154, 3) := by decide +kernel
theorem dX9_number_56 : decode cX9_number 56 = .ok (.iaload, 1) := by decide +kernel
theorem dX9_number_57 : decode cX9_number 57 = .ok (.bipush 48, 2) := by decide +kernel
theorem dX9_number_59 : decode cX9_number 59 = .ok (.bipush 57, 2) := by decide +kernel
theorem dX9_number_61 : decode cX9_number 61 = .ok (.invokestatic 39, 3) := by decide +kernel
theorem dX9_number_64 : decode cX9_number 64 = .ok (.ifCond .eq 60, 3) := by decide +kernel
theorem dX9_number_67 : decode cX9_number 67 = .ok (.aload_n 0, 1) := by decide +kernel
theorem dX9_number_68 : decode cX9_number 68 = .ok (.aload_n 0, 1) := by decide +kernel
theorem dX9_number_69 : decode cX9_number 69 = .ok (.getfield 154, 3) := by decide +kernel
theorem dX9_number_72 : decode cX9_number 72 = .ok (.aload_n 0, 1) := by decide +kernel
theorem dX9_number_73 : decode cX9_number 73 = .ok (.getfield 163, 3) := by decide +kernel
theorem dX9_number_76 : decode cX9_number 76 = .ok (.isub, 1) := by decide +kernel
theorem dX9_number_77 : decode cX9_number 77 = .ok (.iconst 4, 1) := by decide +kernel
theorem dX9_number_78 : decode cX9_number 78 = .ok (.if_icmp .ge 26, 3) := by decide +kernel
theorem dX9_number_81 : decode cX9_number 81 = .ok (.bipush 10, 2) := by decide +kernel
theorem dX9_number_83 : decode cX9_number 83 = .ok (.aload_n 0, 1) := by decide +kernel
theorem dX9_number_84 : decode cX9_number 84 = .ok (.getfield 175, 3) := by decide +kernel
theorem dX9_number_87 : decode cX9_number 87 = .ok (.imul, 1) := by decide +kernel
theorem dX9_number_88 : decode cX9_number 88 = .ok (.aload_n 0, 1) := by decide +kernel
theorem dX9_number_89 : decode cX9_number 89 = .ok (.getfield 32, 3) := by decide +kernel
theorem dX9_number_92 : decode cX9_number 92 = .ok (.aload_n 0, 1) := by decide +kernel
theorem dX9_number_93 : decode cX9_number 93 = .ok (.getfield 154, 3) := by decide +kernel
theorem dX9_number_96 : decode cX9_number 96 = .ok (.iaload, 1) := by decide +kernel
theorem dX9_number_97 : decode cX9_number 97 = .ok (.iadd, 1) := by decide +kernel
theorem dX9_number_98 : decode cX9_number 98 = .ok (.bipush 48, 2) := by decide +kernel
theorem dX9_number_100 : decode cX9_number 100 = .ok (.isub, 1) := by decide +kernel
theorem dX9_number_101 : decode cX9_number 101 = .ok (.goto 7, 3) := by decide +kernel
theorem dX9_number_104 : decode cX9_number 104 = .ok (.aload_n 0, 1) := by decide +kernel
theorem dX9_number_105 : decode cX9_number 105 = .ok (.getfield 175, 3) := by decide +kernel
theorem dX9_number_108 : decode cX9_number 108 = .ok (.putfield 175, 3) := by decide +kernel
theorem dX9_number_111 : decode cX9_number 111 = .ok (.aload_n 0, 1) := by decide +kernel
theorem dX9_number_112 : decode cX9_number 112 = .ok (.dup, 1) := by decide +kernel
theorem dX9_number_113 : decode cX9_number 113 = .ok (.getfield 154, 3) := by decide +kernel
theorem dX9_number_116 : decode cX9_number 116 = .ok (.iconst 1, 1) := by decide +kernel
theorem dX9_number_117 : decode cX9_number 117 = .ok (.iadd, 1) := by decide +kernel
theorem dX9_number_118 : decode cX9_number 118 = .ok (.putfield 154, 3) := by decide +kernel
theorem dX9_number_121 : decode cX9_number 121 = .ok (.goto (-84), 3) := by decide +kernel
theorem dX9_number_124 : decode cX9_number 124 = .ok (.aload_n 0, 1) := by decide +kernel
theorem dX9_number_125 : decode cX9_number 125 = .ok (.getfield 154, 3) := by decide +kernel
theorem dX9_number_128 : decode cX9_number 128 = .ok (.aload_n 0, 1) := by decide +kernel
theorem dX9_number_129 : decode cX9_number 129 = .ok (.getfield 163, 3) := by decide +kernel
theorem dX9_number_132 : decode cX9_number 132 = .ok (.isub, 1) := by decide +kernel
theorem dX9_number_133 : decode cX9_number 133 = .ok (.iconst 4, 1) := by decide +kernel
theorem dX9_number_134 : decode cX9_number 134 = .ok (.if_icmp .le 13, 3) := by decide +kernel
theorem dX9_number_137 : decode cX9_number 137 = .ok (.aload_n 0, 1) := by decide +kernel
theorem dX9_number_138 : decode cX9_number 138 = .ok (.iconst 1, 1) := by decide +kernel
theorem dX9_number_139 : decode cX9_number 139 = .ok (.aload_n 0, 1) := by decide +kernel
theorem dX9_number_140 : decode cX9_number 140 = .ok (.getfield 163, 3) := by decide +kernel
theorem dX9_number_143 : decode cX9_number 143 = .ok (.invokevirtual 172, 3) := by decide +kernel
theorem dX9_number_146 : decode cX9_number 146 = .ok (.ireturn, 1) := by decide +kernel
theorem dX9_number_147 : decode cX9_number 147 = .ok (.aload_n 0, 1) := by decide +kernel
theorem dX9_number_148 : decode cX9_number 148 = .ok (.getfield 175, 3) := by decide +kernel
theorem dX9_number_151 : decode cX9_number 151 = .ok (.iload_n 1, 1) := by decide +kernel
theorem dX9_number_152 : decode cX9_number 152 = .ok (.iload_n 2, 1) := by decide +kernel
theorem dX9_number_153 : decode cX9_number 153 = .ok (.invokestatic 39, 3) := by decide +kernel
theorem dX9_number_156 : decode cX9_number 156 = .ok (.ifCond .ne 15, 3) := by decide +kernel
theorem dX9_number_159 : decode cX9_number 159 = .ok (.aload_n 0, 1) := by decide +kernel
theorem dX9_number_160 : decode cX9_number 160 = .ok (.iconst 2, 1) := by decide +kernel
theorem dX9_number_161 : decode cX9_number 161 = .ok (.aload_n 0, 1) := by decide +kernel
theorem dX9_number_162 : decode cX9_number 162 = .ok (.getfield 163, 3) := by decide +kernel
theorem dX9_number_165 : decode cX9_number 165 = .ok (.invokevirtual 172, 3) := by decide +kernel
theorem dX9_number_168 : decode cX9_number 168 = .ok (.ifCond .eq 7, 3) := by decide +kernel
theorem dX9_number_171 : decode cX9_number 171 = .ok (.iconst 1, 1) := by decide +kernel
theorem dX9_number_172 : decode cX9_number 172 = .ok (.goto 4, 3) := by decide +kernel
theorem dX9_number_175 : decode cX9_number 175 = .ok (.iconst 0, 1) := by decide +kernel
theorem dX9_number_176 : decode cX9_number 176 = .ok (.ireturn, 1) := by decide +kernel
theorem dX9_gates_0 : decode cX9_gates 0 = .ok (.aload_n 0, 1) := by decide +kernel
theorem dX9_gates_1 : decode cX9_gates 1 = .ok (.invokevirtual 178, 3) := by decide +kernel
theorem dX9_gates_4 : decode cX9_gates 4 = .ok (.ifCond .eq 37, 3) := by decide +kernel
theorem dX9_gates_7 : decode cX9_gates 7 = .ok (.aload_n 0, 1) := by decide +kernel
theorem dX9_gates_8 : decode cX9_gates 8 = .ok (.iconst (-1), 1) := by decide +kernel
theorem dX9_gates_9 : decode cX9_gates 9 = .ok (.putfield 182, 3) := by decide +kernel
theorem dX9_gates_12 : decode cX9_gates 12 = .ok (.aload_n 0, 1) := by decide +kernel
theorem dX9_gates_13 : decode cX9_gates 13 = .ok (.invokevirtual 185, 3) := by decide +kernel
theorem dX9_gates_16 : decode cX9_gates 16 = .ok (.ldc2_w 189, 3) := by decide +kernel
theorem dX9_gates_19 : decode cX9_gates 19 = .ok (.lcmp, 1) := by decide +kernel
theorem dX9_gates_20 : decode cX9_gates 20 = .ok (.ifCond .eq 15, 3) := by decide +kernel
theorem dX9_gates_23 : decode cX9_gates 23 = .ok (.aload_n 0, 1) := by decide +kernel
theorem dX9_gates_24 : decode cX9_gates 24 = .ok (.iconst 1, 1) := by decide +kernel
theorem dX9_gates_25 : decode cX9_gates 25 = .ok (.aload_n 0, 1) := by decide +kernel
theorem dX9_gates_26 : decode cX9_gates 26 = .ok (.getfield 163, 3) := by decide +kernel
theorem dX9_gates_29 : decode cX9_gates 29 = .ok (.invokevirtual 172, 3) := by decide +kernel
theorem dX9_gates_32 : decode cX9_gates 32 = .ok (.ifCond .eq 7, 3) := by decide +kernel
theorem dX9_gates_35 : decode cX9_gates 35 = .ok (.iconst 1, 1) := by decide +kernel
theorem dX9_gates_36 : decode cX9_gates 36 = .ok (.goto 4, 3) := by decide +kernel
theorem dX9_gates_39 : decode cX9_gates 39 = .ok (.iconst 0, 1) := by decide +kernel
theorem dX9_gates_40 : decode cX9_gates 40 = .ok (.ireturn, 1) := by decide +kernel
theorem dX9_gates_41 : decode cX9_gates 41 = .ok (.aload_n 0, 1) := by decide +kernel
theorem dX9_gates_42 : decode cX9_gates 42 = .ok (.iconst 0, 1) := by decide +kernel
theorem dX9_gates_43 : decode cX9_gates 43 = .ok (.iconst 3, 1) := by decide +kernel
theorem dX9_gates_44 : decode cX9_gates 44 = .ok (.invokevirtual 191, 3) := by decide +kernel
theorem dX9_gates_47 : decode cX9_gates 47 = .ok (.istore_n 1, 1) := by decide +kernel
theorem dX9_gates_48 : decode cX9_gates 48 = .ok (.aload_n 0, 1) := by decide +kernel
theorem dX9_gates_49 : decode cX9_gates 49 = .ok (.aload_n 0, 1) := by decide +kernel
theorem dX9_gates_50 : decode cX9_gates 50 = .ok (.getfield 175, 3) := by decide +kernel
theorem dX9_gates_53 : decode cX9_gates 53 = .ok (.putfield 182, 3) := by decide +kernel
theorem dX9_gates_56 : decode cX9_gates 56 = .ok (.iload_n 1, 1) := by decide +kernel
theorem dX9_gates_57 : decode cX9_gates 57 = .ok (.ireturn, 1) := by decide +kernel
theorem dX9_ends_0 : decode cX9_ends 0 = .ok (.aload_n 0, 1) := by decide +kernel
theorem dX9_ends_1 : decode cX9_ends 1 = .ok (.invokevirtual 160, 3) := by decide +kernel
theorem dX9_ends_4 : decode cX9_ends 4 = .ok (.bipush 59, 2) := by decide +kernel
theorem dX9_ends_6 : decode cX9_ends 6 = .ok (.if_icmp .eq 13, 3) := by decide +kernel
theorem dX9_ends_9 : decode cX9_ends 9 = .ok (.aload_n 0, 1) := by decide +kernel
theorem dX9_ends_10 : decode cX9_ends 10 = .ok (.iconst 1, 1) := by decide +kernel
theorem dX9_ends_11 : decode cX9_ends 11 = .ok (.aload_n 0, 1) := by decide +kernel
theorem dX9_ends_12 : decode cX9_ends 12 = .ok (.getfield 154, 3) := by decide +kernel
theorem dX9_ends_15 : decode cX9_ends 15 = .ok (.invokevirtual 172, 3) := by decide +kernel
theorem dX9_ends_18 : decode cX9_ends 18 = .ok (.ireturn, 1) := by decide +kernel
theorem dX9_ends_19 : decode cX9_ends 19 = .ok (.aload_n 0, 1) := by decide +kernel
theorem dX9_ends_20 : decode cX9_ends 20 = .ok (.dup, 1) := by decide +kernel
theorem dX9_ends_21 : decode cX9_ends 21 = .ok (.getfield 154, 3) := by decide +kernel
theorem dX9_ends_24 : decode cX9_ends 24 = .ok (.iconst 1, 1) := by decide +kernel
theorem dX9_ends_25 : decode cX9_ends 25 = .ok (.iadd, 1) := by decide +kernel
theorem dX9_ends_26 : decode cX9_ends 26 = .ok (.putfield 154, 3) := by decide +kernel
theorem dX9_ends_29 : decode cX9_ends 29 = .ok (.iconst 1, 1) := by decide +kernel
theorem dX9_ends_30 : decode cX9_ends 30 = .ok (.ireturn, 1) := by decide +kernel
theorem dX9_readSize_0 : decode cX9_readSize 0 = .ok (.aload_n 0, 1) := by decide +kernel
theorem dX9_readSize_1 : decode cX9_readSize 1 = .ok (.iconst 0, 1) := by decide +kernel
theorem dX9_readSize_2 : decode cX9_readSize 2 = .ok (.sipush 9999, 3) := by decide +kernel
theorem dX9_readSize_5 : decode cX9_readSize 5 = .ok (.invokevirtual 191, 3) := by decide +kernel
theorem dX9_readSize_8 : decode cX9_readSize 8 = .ok (.ifCond .ne 5, 3) := by decide +kernel
theorem dX9_readSize_11 : decode cX9_readSize 11 = .ok (.iconst 0, 1) := by decide +kernel
theorem dX9_readSize_12 : decode cX9_readSize 12 = .ok (.ireturn, 1) := by decide +kernel
theorem dX9_readSize_13 : decode cX9_readSize 13 = .ok (.aload_n 0, 1) := by decide +kernel
theorem dX9_readSize_14 : decode cX9_readSize 14 = .ok (.getfield 175, 3) := by decide +kernel
theorem dX9_readSize_17 : decode cX9_readSize 17 = .ok (.invokestatic 109, 3) := by decide +kernel
theorem dX9_readSize_20 : decode cX9_readSize 20 = .ok (.ifCond .ne 13, 3) := by decide +kernel
theorem dX9_readSize_23 : decode cX9_readSize 23 = .ok (.aload_n 0, 1) := by decide +kernel
theorem dX9_readSize_24 : decode cX9_readSize 24 = .ok (.iconst 2, 1) := by decide +kernel
theorem dX9_readSize_25 : decode cX9_readSize 25 = .ok (.aload_n 0, 1) := by decide +kernel
theorem dX9_readSize_26 : decode cX9_readSize 26 = .ok (.getfield 163, 3) := by decide +kernel
theorem dX9_readSize_29 : decode cX9_readSize 29 = .ok (.invokevirtual 172, 3) := by decide +kernel
theorem dX9_readSize_32 : decode cX9_readSize 32 = .ok (.ireturn, 1) := by decide +kernel
theorem dX9_readSize_33 : decode cX9_readSize 33 = .ok (.aload_n 0, 1) := by decide +kernel
theorem dX9_readSize_34 : decode cX9_readSize 34 = .ok (.invokevirtual 194, 3) := by decide +kernel
theorem dX9_readSize_37 : decode cX9_readSize 37 = .ok (.ifCond .ne 5, 3) := by decide +kernel
theorem dX9_readSize_40 : decode cX9_readSize 40 = .ok (.iconst 0, 1) := by decide +kernel
theorem dX9_readSize_41 : decode cX9_readSize 41 = .ok (.ireturn, 1) := by decide +kernel
theorem dX9_readSize_42 : decode cX9_readSize 42 = .ok (.aload_n 0, 1) := by decide +kernel
theorem dX9_readSize_43 : decode cX9_readSize 43 = .ok (.aload_n 0, 1) := by decide +kernel
theorem dX9_readSize_44 : decode cX9_readSize 44 = .ok (.getfield 175, 3) := by decide +kernel
theorem dX9_readSize_47 : decode cX9_readSize 47 = .ok (.invokevirtual 113, 3) := by decide +kernel
theorem dX9_readSize_50 : decode cX9_readSize 50 = .ok (.iconst 1, 1) := by decide +kernel
theorem dX9_readSize_51 : decode cX9_readSize 51 = .ok (.ireturn, 1) := by decide +kernel
theorem dX9_readBack_0 : decode cX9_readBack 0 = .ok (.aload_n 0, 1) := by decide +kernel
theorem dX9_readBack_1 : decode cX9_readBack 1 = .ok (.getfield 7, 3) := by decide +kernel
theorem dX9_readBack_4 : decode cX9_readBack 4 = .ok (.iconst 1, 1) := by decide +kernel
theorem dX9_readBack_5 : decode cX9_readBack 5 = .ok (.iaload, 1) := by decide +kernel
theorem dX9_readBack_6 : decode cX9_readBack 6 = .ok (.bipush 8, 2) := by decide +kernel
theorem dX9_readBack_8 : decode cX9_readBack 8 = .ok (.if_icmp .ne 10, 3) := by decide +kernel
theorem dX9_readBack_11 : decode cX9_readBack 11 = .ok (.aload_n 0, 1) := by decide +kernel
theorem dX9_readBack_12 : decode cX9_readBack 12 = .ok (.iconst 3, 1) := by decide +kernel
theorem dX9_readBack_13 : decode cX9_readBack 13 = .ok (.iload_n 1, 1) := by decide +kernel
theorem dX9_readBack_14 : decode cX9_readBack 14 = .ok (.invokevirtual 172, 3) := by decide +kernel
theorem dX9_readBack_17 : decode cX9_readBack 17 = .ok (.ireturn, 1) := by decide +kernel
theorem dX9_readBack_18 : decode cX9_readBack 18 = .ok (.aload_n 0, 1) := by decide +kernel
theorem dX9_readBack_19 : decode cX9_readBack 19 = .ok (.iconst 0, 1) := by decide +kernel
theorem dX9_readBack_20 : decode cX9_readBack 20 = .ok (.sipush 9999, 3) := by decide +kernel
theorem dX9_readBack_23 : decode cX9_readBack 23 = .ok (.invokevirtual 191, 3) := by decide +kernel
theorem dX9_readBack_26 : decode cX9_readBack 26 = .ok (.ifCond .ne 5, 3) := by decide +kernel
theorem dX9_readBack_29 : decode cX9_readBack 29 = .ok (.iconst 0, 1) := by decide +kernel
theorem dX9_readBack_30 : decode cX9_readBack 30 = .ok (.ireturn, 1) := by decide +kernel
theorem dX9_readBack_31 : decode cX9_readBack 31 = .ok (.aload_n 0, 1) := by decide +kernel
theorem dX9_readBack_32 : decode cX9_readBack 32 = .ok (.getfield 175, 3) := by decide +kernel
theorem dX9_readBack_35 : decode cX9_readBack 35 = .ok (.istore_n 2, 1) := by decide +kernel
theorem dX9_readBack_36 : decode cX9_readBack 36 = .ok (.aload_n 0, 1) := by decide +kernel
theorem dX9_readBack_37 : decode cX9_readBack 37 = .ok (.iload_n 2, 1) := by decide +kernel
theorem dX9_readBack_38 : decode cX9_readBack 38 = .ok (.invokevirtual 116, 3) := by decide +kernel
theorem dX9_readBack_41 : decode cX9_readBack 41 = .ok (.ifCond .eq 13, 3) := by decide +kernel
theorem dX9_readBack_44 : decode cX9_readBack 44 = .ok (.aload_n 0, 1) := by decide +kernel
theorem dX9_readBack_45 : decode cX9_readBack 45 = .ok (.iconst 2, 1) := by decide +kernel
theorem dX9_readBack_46 : decode cX9_readBack 46 = .ok (.aload_n 0, 1) := by decide +kernel
theorem dX9_readBack_47 : decode cX9_readBack 47 = .ok (.getfield 163, 3) := by decide +kernel
theorem dX9_readBack_50 : decode cX9_readBack 50 = .ok (.invokevirtual 172, 3) := by decide +kernel
theorem dX9_readBack_53 : decode cX9_readBack 53 = .ok (.ireturn, 1) := by decide +kernel
theorem dX9_readBack_54 : decode cX9_readBack 54 = .ok (.aload_n 0, 1) := by decide +kernel
theorem dX9_readBack_55 : decode cX9_readBack 55 = .ok (.iconst 1, 1) := by decide +kernel
theorem dX9_readBack_56 : decode cX9_readBack 56 = .ok (.bipush 9, 2) := by decide +kernel
theorem dX9_readBack_58 : decode cX9_readBack 58 = .ok (.invokevirtual 191, 3) := by decide +kernel
theorem dX9_readBack_61 : decode cX9_readBack 61 = .ok (.ifCond .eq 10, 3) := by decide +kernel
theorem dX9_readBack_64 : decode cX9_readBack 64 = .ok (.aload_n 0, 1) := by decide +kernel
theorem dX9_readBack_65 : decode cX9_readBack 65 = .ok (.invokevirtual 194, 3) := by decide +kernel
theorem dX9_readBack_68 : decode cX9_readBack 68 = .ok (.ifCond .ne 5, 3) := by decide +kernel
theorem dX9_readBack_71 : decode cX9_readBack 71 = .ok (.iconst 0, 1) := by decide +kernel
theorem dX9_readBack_72 : decode cX9_readBack 72 = .ok (.ireturn, 1) := by decide +kernel
theorem dX9_readBack_73 : decode cX9_readBack 73 = .ok (.aload_n 0, 1) := by decide +kernel
theorem dX9_readBack_74 : decode cX9_readBack 74 = .ok (.iload_n 2, 1) := by decide +kernel
theorem dX9_readBack_75 : decode cX9_readBack 75 = .ok (.aload_n 0, 1) := by decide +kernel
theorem dX9_readBack_76 : decode cX9_readBack 76 = .ok (.getfield 175, 3) := by decide +kernel
theorem dX9_readBack_79 : decode cX9_readBack 79 = .ok (.invokevirtual 119, 3) := by decide +kernel
theorem dX9_readBack_82 : decode cX9_readBack 82 = .ok (.ifCond .lt 7, 3) := by decide +kernel
end
section
theorem dX9_readBack_85 : decode cX9_readBack 85 = .ok (.iconst 1, 1) := by decide +kernel
theorem dX9_readBack_86 : decode cX9_readBack 86 = .ok (.goto 4, 3) := by decide +kernel
theorem dX9_readBack_89 : decode cX9_readBack 89 = .ok (.iconst 0, 1) := by decide +kernel
theorem dX9_readBack_90 : decode cX9_readBack 90 = .ok (.ireturn, 1) := by decide +kernel
theorem dX9_readWeigh_0 : decode cX9_readWeigh 0 = .ok (.aload_n 0, 1) := by decide +kernel
theorem dX9_readWeigh_1 : decode cX9_readWeigh 1 = .ok (.iconst 0, 1) := by decide +kernel
theorem dX9_readWeigh_2 : decode cX9_readWeigh 2 = .ok (.aload_n 0, 1) := by decide +kernel
theorem dX9_readWeigh_3 : decode cX9_readWeigh 3 = .ok (.getfield 7, 3) := by decide +kernel
theorem dX9_readWeigh_6 : decode cX9_readWeigh 6 = .ok (.iconst 1, 1) := by decide +kernel
theorem dX9_readWeigh_7 : decode cX9_readWeigh 7 = .ok (.iaload, 1) := by decide +kernel
theorem dX9_readWeigh_8 : decode cX9_readWeigh 8 = .ok (.iconst 1, 1) := by decide +kernel
theorem dX9_readWeigh_9 : decode cX9_readWeigh 9 = .ok (.isub, 1) := by decide +kernel
theorem dX9_readWeigh_10 : decode cX9_readWeigh 10 = .ok (.invokevirtual 191, 3) := by decide +kernel
theorem dX9_readWeigh_13 : decode cX9_readWeigh 13 = .ok (.ifCond .ne 5, 3) := by decide +kernel
theorem dX9_readWeigh_16 : decode cX9_readWeigh 16 = .ok (.iconst 0, 1) := by decide +kernel
theorem dX9_readWeigh_17 : decode cX9_readWeigh 17 = .ok (.ireturn, 1) := by decide +kernel
theorem dX9_readWeigh_18 : decode cX9_readWeigh 18 = .ok (.aload_n 0, 1) := by decide +kernel
theorem dX9_readWeigh_19 : decode cX9_readWeigh 19 = .ok (.getfield 175, 3) := by decide +kernel
theorem dX9_readWeigh_22 : decode cX9_readWeigh 22 = .ok (.istore_n 1, 1) := by decide +kernel
theorem dX9_readWeigh_23 : decode cX9_readWeigh 23 = .ok (.aload_n 0, 1) := by decide +kernel
theorem dX9_readWeigh_24 : decode cX9_readWeigh 24 = .ok (.iconst 1, 1) := by decide +kernel
theorem dX9_readWeigh_25 : decode cX9_readWeigh 25 = .ok (.bipush 9, 2) := by decide +kernel
theorem dX9_readWeigh_27 : decode cX9_readWeigh 27 = .ok (.invokevirtual 191, 3) := by decide +kernel
theorem dX9_readWeigh_30 : decode cX9_readWeigh 30 = .ok (.ifCond .eq 10, 3) := by decide +kernel
theorem dX9_readWeigh_33 : decode cX9_readWeigh 33 = .ok (.aload_n 0, 1) := by decide +kernel
theorem dX9_readWeigh_34 : decode cX9_readWeigh 34 = .ok (.invokevirtual 194, 3) := by decide +kernel
theorem dX9_readWeigh_37 : decode cX9_readWeigh 37 = .ok (.ifCond .ne 5, 3) := by decide +kernel
theorem dX9_readWeigh_40 : decode cX9_readWeigh 40 = .ok (.iconst 0, 1) := by decide +kernel
theorem dX9_readWeigh_41 : decode cX9_readWeigh 41 = .ok (.ireturn, 1) := by decide +kernel
theorem dX9_readWeigh_42 : decode cX9_readWeigh 42 = .ok (.aload_n 0, 1) := by decide +kernel
theorem dX9_readWeigh_43 : decode cX9_readWeigh 43 = .ok (.getfield 7, 3) := by decide +kernel
theorem dX9_readWeigh_46 : decode cX9_readWeigh 46 = .ok (.bipush 13, 2) := by decide +kernel
theorem dX9_readWeigh_48 : decode cX9_readWeigh 48 = .ok (.iload_n 1, 1) := by decide +kernel
theorem dX9_readWeigh_49 : decode cX9_readWeigh 49 = .ok (.iadd, 1) := by decide +kernel
theorem dX9_readWeigh_50 : decode cX9_readWeigh 50 = .ok (.aload_n 0, 1) := by decide +kernel
theorem dX9_readWeigh_51 : decode cX9_readWeigh 51 = .ok (.getfield 175, 3) := by decide +kernel
theorem dX9_readWeigh_54 : decode cX9_readWeigh 54 = .ok (.iastore, 1) := by decide +kernel
theorem dX9_readWeigh_55 : decode cX9_readWeigh 55 = .ok (.iconst 1, 1) := by decide +kernel
theorem dX9_readWeigh_56 : decode cX9_readWeigh 56 = .ok (.ireturn, 1) := by decide +kernel
theorem dX9_readSee_0 : decode cX9_readSee 0 = .ok (.aload_n 0, 1) := by decide +kernel
theorem dX9_readSee_1 : decode cX9_readSee 1 = .ok (.invokevirtual 197, 3) := by decide +kernel
theorem dX9_readSee_4 : decode cX9_readSee 4 = .ok (.ifCond .eq 19, 3) := by decide +kernel
theorem dX9_readSee_7 : decode cX9_readSee 7 = .ok (.aload_n 0, 1) := by decide +kernel
theorem dX9_readSee_8 : decode cX9_readSee 8 = .ok (.iconst 0, 1) := by decide +kernel
theorem dX9_readSee_9 : decode cX9_readSee 9 = .ok (.aload_n 0, 1) := by decide +kernel
theorem dX9_readSee_10 : decode cX9_readSee 10 = .ok (.getfield 7, 3) := by decide +kernel
theorem dX9_readSee_13 : decode cX9_readSee 13 = .ok (.iconst 1, 1) := by decide +kernel
theorem dX9_readSee_14 : decode cX9_readSee 14 = .ok (.iaload, 1) := by decide +kernel
theorem dX9_readSee_15 : decode cX9_readSee 15 = .ok (.iconst 1, 1) := by decide +kernel
theorem dX9_readSee_16 : decode cX9_readSee 16 = .ok (.isub, 1) := by decide +kernel
theorem dX9_readSee_17 : decode cX9_readSee 17 = .ok (.invokevirtual 191, 3) := by decide +kernel
theorem dX9_readSee_20 : decode cX9_readSee 20 = .ok (.ifCond .ne 5, 3) := by decide +kernel
theorem dX9_readSee_23 : decode cX9_readSee 23 = .ok (.iconst 0, 1) := by decide +kernel
theorem dX9_readSee_24 : decode cX9_readSee 24 = .ok (.ireturn, 1) := by decide +kernel
theorem dX9_readSee_25 : decode cX9_readSee 25 = .ok (.aload_n 0, 1) := by decide +kernel
theorem dX9_readSee_26 : decode cX9_readSee 26 = .ok (.getfield 175, 3) := by decide +kernel
theorem dX9_readSee_29 : decode cX9_readSee 29 = .ok (.istore_n 1, 1) := by decide +kernel
theorem dX9_readSee_30 : decode cX9_readSee 30 = .ok (.aload_n 0, 1) := by decide +kernel
theorem dX9_readSee_31 : decode cX9_readSee 31 = .ok (.invokevirtual 178, 3) := by decide +kernel
theorem dX9_readSee_34 : decode cX9_readSee 34 = .ok (.ifCond .ne 13, 3) := by decide +kernel
theorem dX9_readSee_37 : decode cX9_readSee 37 = .ok (.aload_n 0, 1) := by decide +kernel
theorem dX9_readSee_38 : decode cX9_readSee 38 = .ok (.iconst 1, 1) := by decide +kernel
theorem dX9_readSee_39 : decode cX9_readSee 39 = .ok (.aload_n 0, 1) := by decide +kernel
theorem dX9_readSee_40 : decode cX9_readSee 40 = .ok (.getfield 154, 3) := by decide +kernel
theorem dX9_readSee_43 : decode cX9_readSee 43 = .ok (.invokevirtual 172, 3) := by decide +kernel
theorem dX9_readSee_46 : decode cX9_readSee 46 = .ok (.ireturn, 1) := by decide +kernel
theorem dX9_readSee_47 : decode cX9_readSee 47 = .ok (.aload_n 0, 1) := by decide +kernel
theorem dX9_readSee_48 : decode cX9_readSee 48 = .ok (.invokevirtual 185, 3) := by decide +kernel
theorem dX9_readSee_51 : decode cX9_readSee 51 = .ok (.lstore_n 2, 1) := by decide +kernel
theorem dX9_readSee_52 : decode cX9_readSee 52 = .ok (.lload_n 2, 1) := by decide +kernel
theorem dX9_readSee_53 : decode cX9_readSee 53 = .ok (.ldc2_w 200, 3) := by decide +kernel
theorem dX9_readSee_56 : decode cX9_readSee 56 = .ok (.lcmp, 1) := by decide +kernel
theorem dX9_readSee_57 : decode cX9_readSee 57 = .ok (.ifCond .ne 7, 3) := by decide +kernel
theorem dX9_readSee_60 : decode cX9_readSee 60 = .ok (.iconst 1, 1) := by decide +kernel
theorem dX9_readSee_61 : decode cX9_readSee 61 = .ok (.goto 28, 3) := by decide +kernel
theorem dX9_readSee_64 : decode cX9_readSee 64 = .ok (.lload_n 2, 1) := by decide +kernel
theorem dX9_readSee_65 : decode cX9_readSee 65 = .ok (.ldc2_w 202, 3) := by decide +kernel
theorem dX9_readSee_68 : decode cX9_readSee 68 = .ok (.lcmp, 1) := by decide +kernel
theorem dX9_readSee_69 : decode cX9_readSee 69 = .ok (.ifCond .ne 7, 3) := by decide +kernel
theorem dX9_readSee_72 : decode cX9_readSee 72 = .ok (.iconst 0, 1) := by decide +kernel
theorem dX9_readSee_73 : decode cX9_readSee 73 = .ok (.goto 16, 3) := by decide +kernel
theorem dX9_readSee_76 : decode cX9_readSee 76 = .ok (.lload_n 2, 1) := by decide +kernel
theorem dX9_readSee_77 : decode cX9_readSee 77 = .ok (.ldc2_w 204, 3) := by decide +kernel
theorem dX9_readSee_80 : decode cX9_readSee 80 = .ok (.lcmp, 1) := by decide +kernel
theorem dX9_readSee_81 : decode cX9_readSee 81 = .ok (.ifCond .ne 7, 3) := by decide +kernel
theorem dX9_readSee_84 : decode cX9_readSee 84 = .ok (.iconst 2, 1) := by decide +kernel
theorem dX9_readSee_85 : decode cX9_readSee 85 = .ok (.goto 4, 3) := by decide +kernel
theorem dX9_readSee_88 : decode cX9_readSee 88 = .ok (.iconst (-1), 1) := by decide +kernel
theorem dX9_readSee_89 : decode cX9_readSee 89 = .ok (.istore 4, 2) := by decide +kernel
theorem dX9_readSee_91 : decode cX9_readSee 91 = .ok (.iload 4, 2) := by decide +kernel
theorem dX9_readSee_93 : decode cX9_readSee 93 = .ok (.iconst (-1), 1) := by decide +kernel
theorem dX9_readSee_94 : decode cX9_readSee 94 = .ok (.if_icmp .ne 13, 3) := by decide +kernel
theorem dX9_readSee_97 : decode cX9_readSee 97 = .ok (.aload_n 0, 1) := by decide +kernel
theorem dX9_readSee_98 : decode cX9_readSee 98 = .ok (.iconst 1, 1) := by decide +kernel
theorem dX9_readSee_99 : decode cX9_readSee 99 = .ok (.aload_n 0, 1) := by decide +kernel
theorem dX9_readSee_100 : decode cX9_readSee 100 = .ok (.getfield 163, 3) := by decide +kernel
theorem dX9_readSee_103 : decode cX9_readSee 103 = .ok (.invokevirtual 172, 3) := by decide +kernel
theorem dX9_readSee_106 : decode cX9_readSee 106 = .ok (.ireturn, 1) := by decide +kernel
theorem dX9_readSee_107 : decode cX9_readSee 107 = .ok (.aload_n 0, 1) := by decide +kernel
theorem dX9_readSee_108 : decode cX9_readSee 108 = .ok (.invokevirtual 194, 3) := by decide +kernel
theorem dX9_readSee_111 : decode cX9_readSee 111 = .ok (.ifCond .eq 21, 3) := by decide +kernel
theorem dX9_readSee_114 : decode cX9_readSee 114 = .ok (.aload_n 0, 1) := by decide +kernel
theorem dX9_readSee_115 : decode cX9_readSee 115 = .ok (.aload_n 0, 1) := by decide +kernel
theorem dX9_readSee_116 : decode cX9_readSee 116 = .ok (.getfield 182, 3) := by decide +kernel
theorem dX9_readSee_119 : decode cX9_readSee 119 = .ok (.iload_n 1, 1) := by decide +kernel
theorem dX9_readSee_120 : decode cX9_readSee 120 = .ok (.iload 4, 2) := by decide +kernel
theorem dX9_readSee_122 : decode cX9_readSee 122 = .ok (.invokevirtual 128, 3) := by decide +kernel
theorem dX9_readSee_125 : decode cX9_readSee 125 = .ok (.ifCond .lt 7, 3) := by decide +kernel
theorem dX9_readSee_128 : decode cX9_readSee 128 = .ok (.iconst 1, 1) := by decide +kernel
theorem dX9_readSee_129 : decode cX9_readSee 129 = .ok (.goto 4, 3) := by decide +kernel
theorem dX9_readSee_132 : decode cX9_readSee 132 = .ok (.iconst 0, 1) := by decide +kernel
theorem dX9_readSee_133 : decode cX9_readSee 133 = .ok (.ireturn, 1) := by decide +kernel
theorem dX9_readTick_0 : decode cX9_readTick 0 = .ok (.aload_n 0, 1) := by decide +kernel
theorem dX9_readTick_1 : decode cX9_readTick 1 = .ok (.iconst 1, 1) := by decide +kernel
theorem dX9_readTick_2 : decode cX9_readTick 2 = .ok (.sipush 999, 3) := by decide +kernel
theorem dX9_readTick_5 : decode cX9_readTick 5 = .ok (.invokevirtual 191, 3) := by decide +kernel
theorem dX9_readTick_8 : decode cX9_readTick 8 = .ok (.ifCond .eq 25, 3) := by decide +kernel
theorem dX9_readTick_11 : decode cX9_readTick 11 = .ok (.aload_n 0, 1) := by decide +kernel
theorem dX9_readTick_12 : decode cX9_readTick 12 = .ok (.invokevirtual 194, 3) := by decide +kernel
theorem dX9_readTick_15 : decode cX9_readTick 15 = .ok (.ifCond .eq 18, 3) := by decide +kernel
theorem dX9_readTick_18 : decode cX9_readTick 18 = .ok (.aload_n 0, 1) := by decide +kernel
theorem dX9_readTick_19 : decode cX9_readTick 19 = .ok (.aload_n 0, 1) := by decide +kernel
theorem dX9_readTick_20 : decode cX9_readTick 20 = .ok (.getfield 175, 3) := by decide +kernel
theorem dX9_readTick_23 : decode cX9_readTick 23 = .ok (.invokevirtual 139, 3) := by decide +kernel
theorem dX9_readTick_26 : decode cX9_readTick 26 = .ok (.ifCond .lt 7, 3) := by decide +kernel
theorem dX9_readTick_29 : decode cX9_readTick 29 = .ok (.iconst 1, 1) := by decide +kernel
theorem dX9_readTick_30 : decode cX9_readTick 30 = .ok (.goto 4, 3) := by decide +kernel
theorem dX9_readTick_33 : decode cX9_readTick 33 = .ok (.iconst 0, 1) := by decide +kernel
theorem dX9_readTick_34 : decode cX9_readTick 34 = .ok (.ireturn, 1) := by decide +kernel
theorem dX9_readHold_0 : decode cX9_readHold 0 = .ok (.aload_n 0, 1) := by decide +kernel
theorem dX9_readHold_1 : decode cX9_readHold 1 = .ok (.iconst 1, 1) := by decide +kernel
theorem dX9_readHold_2 : decode cX9_readHold 2 = .ok (.iload_n 1, 1) := by decide +kernel
theorem dX9_readHold_3 : decode cX9_readHold 3 = .ok (.isub, 1) := by decide +kernel
theorem dX9_readHold_4 : decode cX9_readHold 4 = .ok (.iload_n 1, 1) := by decide +kernel
theorem dX9_readHold_5 : decode cX9_readHold 5 = .ok (.ifCond .ne 8, 3) := by decide +kernel
theorem dX9_readHold_8 : decode cX9_readHold 8 = .ok (.bipush 16, 2) := by decide +kernel
theorem dX9_readHold_10 : decode cX9_readHold 10 = .ok (.goto 5, 3) := by decide +kernel
theorem dX9_readHold_13 : decode cX9_readHold 13 = .ok (.bipush 99, 2) := by decide +kernel
theorem dX9_readHold_15 : decode cX9_readHold 15 = .ok (.invokevirtual 191, 3) := by decide +kernel
theorem dX9_readHold_18 : decode cX9_readHold 18 = .ok (.ifCond .eq 10, 3) := by decide +kernel
theorem dX9_readHold_21 : decode cX9_readHold 21 = .ok (.aload_n 0, 1) := by decide +kernel
theorem dX9_readHold_22 : decode cX9_readHold 22 = .ok (.invokevirtual 194, 3) := by decide +kernel
theorem dX9_readHold_25 : decode cX9_readHold 25 = .ok (.ifCond .ne 5, 3) := by decide +kernel
theorem dX9_readHold_28 : decode cX9_readHold 28 = .ok (.iconst 0, 1) := by decide +kernel
theorem dX9_readHold_29 : decode cX9_readHold 29 = .ok (.ireturn, 1) := by decide +kernel
theorem dX9_readHold_30 : decode cX9_readHold 30 = .ok (.aload_n 0, 1) := by decide +kernel
theorem dX9_readHold_31 : decode cX9_readHold 31 = .ok (.iload_n 1, 1) := by decide +kernel
theorem dX9_readHold_32 : decode cX9_readHold 32 = .ok (.aload_n 0, 1) := by decide +kernel
theorem dX9_readHold_33 : decode cX9_readHold 33 = .ok (.getfield 175, 3) := by decide +kernel
theorem dX9_readHold_36 : decode cX9_readHold 36 = .ok (.invokevirtual 136, 3) := by decide +kernel
theorem dX9_readHold_39 : decode cX9_readHold 39 = .ok (.iconst 1, 1) := by decide +kernel
theorem dX9_readHold_40 : decode cX9_readHold 40 = .ok (.ireturn, 1) := by decide +kernel
theorem dX9_readPack_0 : decode cX9_readPack 0 = .ok (.aload_n 0, 1) := by decide +kernel
theorem dX9_readPack_1 : decode cX9_readPack 1 = .ok (.invokevirtual 197, 3) := by decide +kernel
theorem dX9_readPack_4 : decode cX9_readPack 4 = .ok (.ifCond .eq 21, 3) := by decide +kernel
theorem dX9_readPack_7 : decode cX9_readPack 7 = .ok (.aload_n 0, 1) := by decide +kernel
theorem dX9_readPack_8 : decode cX9_readPack 8 = .ok (.iconst 0, 1) := by decide +kernel
theorem dX9_readPack_9 : decode cX9_readPack 9 = .ok (.sipush 9999, 3) := by decide +kernel
theorem dX9_readPack_12 : decode cX9_readPack 12 = .ok (.invokevirtual 191, 3) := by decide +kernel
theorem dX9_readPack_15 : decode cX9_readPack 15 = .ok (.ifCond .eq 10, 3) := by decide +kernel
theorem dX9_readPack_18 : decode cX9_readPack 18 = .ok (.aload_n 0, 1) := by decide +kernel
theorem dX9_readPack_19 : decode cX9_readPack 19 = .ok (.invokevirtual 194, 3) := by decide +kernel
theorem dX9_readPack_22 : decode cX9_readPack 22 = .ok (.ifCond .ne 5, 3) := by decide +kernel
theorem dX9_readPack_25 : decode cX9_readPack 25 = .ok (.iconst 0, 1) := by decide +kernel
theorem dX9_readPack_26 : decode cX9_readPack 26 = .ok (.ireturn, 1) := by decide +kernel
theorem dX9_readPack_27 : decode cX9_readPack 27 = .ok (.iconst 0, 1) := by decide +kernel
theorem dX9_readPack_28 : decode cX9_readPack 28 = .ok (.istore_n 1, 1) := by decide +kernel
theorem dX9_readPack_29 : decode cX9_readPack 29 = .ok (.iload_n 1, 1) := by decide +kernel
theorem dX9_readPack_30 : decode cX9_readPack 30 = .ok (.iconst 4, 1) := by decide +kernel
theorem dX9_readPack_31 : decode cX9_readPack 31 = .ok (.if_icmp .ge 35, 3) := by decide +kernel
theorem dX9_readPack_34 : decode cX9_readPack 34 = .ok (.aload_n 0, 1) := by decide +kernel
theorem dX9_readPack_35 : decode cX9_readPack 35 = .ok (.getfield 182, 3) := by decide +kernel
theorem dX9_readPack_38 : decode cX9_readPack 38 = .ok (.iconst (-1), 1) := by decide +kernel
theorem dX9_readPack_39 : decode cX9_readPack 39 = .ok (.if_icmp .eq 11, 3) := by decide +kernel
theorem dX9_readPack_42 : decode cX9_readPack 42 = .ok (.aload_n 0, 1) := by decide +kernel
theorem dX9_readPack_43 : decode cX9_readPack 43 = .ok (.getfield 182, 3) := by decide +kernel
theorem dX9_readPack_46 : decode cX9_readPack 46 = .ok (.iload_n 1, 1) := by decide +kernel
theorem dX9_readPack_47 : decode cX9_readPack 47 = .ok (.if_icmp .ne 13, 3) := by decide +kernel
theorem dX9_readPack_50 : decode cX9_readPack 50 = .ok (.aload_n 0, 1) := by decide +kernel
theorem dX9_readPack_51 : decode cX9_readPack 51 = .ok (.iload_n 1, 1) := by decide +kernel
theorem dX9_readPack_52 : decode cX9_readPack 52 = .ok (.aload_n 0, 1) := by decide +kernel
theorem dX9_readPack_53 : decode cX9_readPack 53 = .ok (.getfield 175, 3) := by decide +kernel
theorem dX9_readPack_56 : decode cX9_readPack 56 = .ok (.invokevirtual 145, 3) := by decide +kernel
theorem dX9_readPack_59 : decode cX9_readPack 59 = .ok (.pop, 1) := by decide +kernel
theorem dX9_readPack_60 : decode cX9_readPack 60 = .ok (.iinc 1 1, 3) := by decide +kernel
theorem dX9_readPack_63 : decode cX9_readPack 63 = .ok (.goto (-34), 3) := by decide +kernel
theorem dX9_readPack_66 : decode cX9_readPack 66 = .ok (.iconst 1, 1) := by decide +kernel
theorem dX9_readPack_67 : decode cX9_readPack 67 = .ok (.ireturn, 1) := by decide +kernel
theorem dX9_readStatement_0 : decode cX9_readStatement 0 = .ok (.aload_n 0, 1) := by decide +kernel
theorem dX9_readStatement_1 : decode cX9_readStatement 1 = .ok (.invokevirtual 178, 3) := by decide +kernel
theorem dX9_readStatement_4 : decode cX9_readStatement 4 = .ok (.ifCond .ne 13, 3) := by decide +kernel
theorem dX9_readStatement_7 : decode cX9_readStatement 7 = .ok (.aload_n 0, 1) := by decide +kernel
theorem dX9_readStatement_8 : decode cX9_readStatement 8 = .ok (.iconst 1, 1) := by decide +kernel
theorem dX9_readStatement_9 : decode cX9_readStatement 9 = .ok (.aload_n 0, 1) := by decide +kernel
theorem dX9_readStatement_10 : decode cX9_readStatement 10 = .ok (.getfield 154, 3) := by decide +kernel
theorem dX9_readStatement_13 : decode cX9_readStatement 13 = .ok (.invokevirtual 172, 3) := by decide +kernel
theorem dX9_readStatement_16 : decode cX9_readStatement 16 = .ok (.ireturn, 1) := by decide +kernel
theorem dX9_readStatement_17 : decode cX9_readStatement 17 = .ok (.aload_n 0, 1) := by decide +kernel
theorem dX9_readStatement_18 : decode cX9_readStatement 18 = .ok (.invokevirtual 185, 3) := by decide +kernel
theorem dX9_readStatement_21 : decode cX9_readStatement 21 = .ok (.lstore_n 1, 1) := by decide +kernel
theorem dX9_readStatement_22 : decode cX9_readStatement 22 = .ok (.aload_n 0, 1) := by decide +kernel
theorem dX9_readStatement_23 : decode cX9_readStatement 23 = .ok (.getfield 163, 3) := by decide +kernel
theorem dX9_readStatement_26 : decode cX9_readStatement 26 = .ok (.istore_n 3, 1) := by decide +kernel
theorem dX9_readStatement_27 : decode cX9_readStatement 27 = .ok (.lload_n 1, 1) := by decide +kernel
theorem dX9_readStatement_28 : decode cX9_readStatement 28 = .ok (.ldc2_w 206, 3) := by decide +kernel
theorem dX9_readStatement_31 : decode cX9_readStatement 31 = .ok (.lcmp, 1) := by decide +kernel
theorem dX9_readStatement_32 : decode cX9_readStatement 32 = .ok (.ifCond .ne 8, 3) := by decide +kernel
theorem dX9_readStatement_35 : decode cX9_readStatement 35 = .ok (.aload_n 0, 1) := by decide +kernel
theorem dX9_readStatement_36 : decode cX9_readStatement 36 = .ok (.invokevirtual 208, 3) := by decide +kernel
theorem dX9_readStatement_39 : decode cX9_readStatement 39 = .ok (.ireturn, 1) := by decide +kernel
theorem dX9_readStatement_40 : decode cX9_readStatement 40 = .ok (.lload_n 1, 1) := by decide +kernel
theorem dX9_readStatement_41 : decode cX9_readStatement 41 = .ok (.ldc2_w 211, 3) := by decide +kernel
theorem dX9_readStatement_44 : decode cX9_readStatement 44 = .ok (.lcmp, 1) := by decide +kernel
theorem dX9_readStatement_45 : decode cX9_readStatement 45 = .ok (.ifCond .ne 9, 3) := by decide +kernel
theorem dX9_readStatement_48 : decode cX9_readStatement 48 = .ok (.aload_n 0, 1) := by decide +kernel
theorem dX9_readStatement_49 : decode cX9_readStatement 49 = .ok (.iload_n 3, 1) := by decide +kernel
theorem dX9_readStatement_50 : decode cX9_readStatement 50 = .ok (.invokevirtual 213, 3) := by decide +kernel
theorem dX9_readStatement_53 : decode cX9_readStatement 53 = .ok (.ireturn, 1) := by decide +kernel
theorem dX9_readStatement_54 : decode cX9_readStatement 54 = .ok (.lload_n 1, 1) := by decide +kernel
theorem dX9_readStatement_55 : decode cX9_readStatement 55 = .ok (.ldc2_w 216, 3) := by decide +kernel
theorem dX9_readStatement_58 : decode cX9_readStatement 58 = .ok (.lcmp, 1) := by decide +kernel
theorem dX9_readStatement_59 : decode cX9_readStatement 59 = .ok (.ifCond .ne 8, 3) := by decide +kernel
theorem dX9_readStatement_62 : decode cX9_readStatement 62 = .ok (.aload_n 0, 1) := by decide +kernel
theorem dX9_readStatement_63 : decode cX9_readStatement 63 = .ok (.invokevirtual 218, 3) := by decide +kernel
theorem dX9_readStatement_66 : decode cX9_readStatement 66 = .ok (.ireturn, 1) := by decide +kernel
theorem dX9_readStatement_67 : decode cX9_readStatement 67 = .ok (.lload_n 1, 1) := by decide +kernel
theorem dX9_readStatement_68 : decode cX9_readStatement 68 = .ok (.ldc2_w 221, 3) := by decide +kernel
theorem dX9_readStatement_71 : decode cX9_readStatement 71 = .ok (.lcmp, 1) := by decide +kernel
theorem dX9_readStatement_72 : decode cX9_readStatement 72 = .ok (.ifCond .ne 8, 3) := by decide +kernel
theorem dX9_readStatement_75 : decode cX9_readStatement 75 = .ok (.aload_n 0, 1) := by decide +kernel
theorem dX9_readStatement_76 : decode cX9_readStatement 76 = .ok (.invokevirtual 223, 3) := by decide +kernel
theorem dX9_readStatement_79 : decode cX9_readStatement 79 = .ok (.ireturn, 1) := by decide +kernel
theorem dX9_readStatement_80 : decode cX9_readStatement 80 = .ok (.lload_n 1, 1) := by decide +kernel
theorem dX9_readStatement_81 : decode cX9_readStatement 81 = .ok (.ldc2_w 226, 3) := by decide +kernel
theorem dX9_readStatement_84 : decode cX9_readStatement 84 = .ok (.lcmp, 1) := by decide +kernel
theorem dX9_readStatement_85 : decode cX9_readStatement 85 = .ok (.ifCond .ne 8, 3) := by decide +kernel
theorem dX9_readStatement_88 : decode cX9_readStatement 88 = .ok (.aload_n 0, 1) := by decide +kernel
theorem dX9_readStatement_89 : decode cX9_readStatement 89 = .ok (.invokevirtual 228, 3) := by decide +kernel
theorem dX9_readStatement_92 : decode cX9_readStatement 92 = .ok (.ireturn, 1) := by decide +kernel
theorem dX9_readStatement_93 : decode cX9_readStatement 93 = .ok (.lload_n 1, 1) := by decide +kernel
theorem dX9_readStatement_94 : decode cX9_readStatement 94 = .ok (.ldc2_w 231, 3) := by decide +kernel
theorem dX9_readStatement_97 : decode cX9_readStatement 97 = .ok (.lcmp, 1) := by decide +kernel
theorem dX9_readStatement_98 : decode cX9_readStatement 98 = .ok (.ifCond .eq 11, 3) := by decide +kernel
theorem dX9_readStatement_101 : decode cX9_readStatement 101 = .ok (.lload_n 1, 1) := by decide +kernel
theorem dX9_readStatement_102 : decode cX9_readStatement 102 = .ok (.ldc2_w 233, 3) := by decide +kernel
theorem dX9_readStatement_105 : decode cX9_readStatement 105 = .ok (.lcmp, 1) := by decide +kernel
theorem dX9_readStatement_106 : decode cX9_readStatement 106 = .ok (.ifCond .ne 21, 3) := by decide +kernel
theorem dX9_readStatement_109 : decode cX9_readStatement 109 = .ok (.aload_n 0, 1) := by decide +kernel
theorem dX9_readStatement_110 : decode cX9_readStatement 110 = .ok (.lload_n 1, 1) := by decide +kernel
theorem dX9_readStatement_111 : decode cX9_readStatement 111 = .ok (.ldc2_w 231, 3) := by decide +kernel
theorem dX9_readStatement_114 : decode cX9_readStatement 114 = .ok (.lcmp, 1) := by decide +kernel
theorem dX9_readStatement_115 : decode cX9_readStatement 115 = .ok (.ifCond .ne 7, 3) := by decide +kernel
theorem dX9_readStatement_118 : decode cX9_readStatement 118 = .ok (.iconst 0, 1) := by decide +kernel
theorem dX9_readStatement_119 : decode cX9_readStatement 119 = .ok (.goto 4, 3) := by decide +kernel
theorem dX9_readStatement_122 : decode cX9_readStatement 122 = .ok (.iconst 1, 1) := by decide +kernel
theorem dX9_readStatement_123 : decode cX9_readStatement 123 = .ok (.invokevirtual 235, 3) := by decide +kernel
theorem dX9_readStatement_126 : decode cX9_readStatement 126 = .ok (.ireturn, 1) := by decide +kernel
theorem dX9_readStatement_127 : decode cX9_readStatement 127 = .ok (.lload_n 1, 1) := by decide +kernel
theorem dX9_readStatement_128 : decode cX9_readStatement 128 = .ok (.ldc2_w 238, 3) := by decide +kernel
theorem dX9_readStatement_131 : decode cX9_readStatement 131 = .ok (.lcmp, 1) := by decide +kernel
theorem dX9_readStatement_132 : decode cX9_readStatement 132 = .ok (.ifCond .ne 10, 3) := by decide +kernel
theorem dX9_readStatement_135 : decode cX9_readStatement 135 = .ok (.aload_n 0, 1) := by decide +kernel
theorem dX9_readStatement_136 : decode cX9_readStatement 136 = .ok (.invokevirtual 240, 3) := by decide +kernel
theorem dX9_readStatement_139 : decode cX9_readStatement 139 = .ok (.goto 9, 3) := by decide +kernel
theorem dX9_readStatement_142 : decode cX9_readStatement 142 = .ok (.aload_n 0, 1) := by decide +kernel
theorem dX9_readStatement_143 : decode cX9_readStatement 143 = .ok (.iconst 1, 1) := by decide +kernel
theorem dX9_readStatement_144 : decode cX9_readStatement 144 = .ok (.iload_n 3, 1) := by decide +kernel
theorem dX9_readStatement_145 : decode cX9_readStatement 145 = .ok (.invokevirtual 172, 3) := by decide +kernel
theorem dX9_readStatement_148 : decode cX9_readStatement 148 = .ok (.ireturn, 1) := by decide +kernel
theorem dX9_readText_0 : decode cX9_readText 0 = .ok (.aload_n 0, 1) := by decide +kernel
theorem dX9_readText_1 : decode cX9_readText 1 = .ok (.iconst 0, 1) := by decide +kernel
theorem dX9_readText_2 : decode cX9_readText 2 = .ok (.putfield 243, 3) := by decide +kernel
theorem dX9_readText_5 : decode cX9_readText 5 = .ok (.aload_n 0, 1) := by decide +kernel
theorem dX9_readText_6 : decode cX9_readText 6 = .ok (.iconst 0, 1) := by decide +kernel
theorem dX9_readText_7 : decode cX9_readText 7 = .ok (.putfield 154, 3) := by decide +kernel
theorem dX9_readText_10 : decode cX9_readText 10 = .ok (.aload_n 0, 1) := by decide +kernel
theorem dX9_readText_11 : decode cX9_readText 11 = .ok (.iconst 0, 1) := by decide +kernel
theorem dX9_readText_12 : decode cX9_readText 12 = .ok (.putfield 157, 3) := by decide +kernel
theorem dX9_readText_15 : decode cX9_readText 15 = .ok (.aload_n 0, 1) := by decide +kernel
theorem dX9_readText_16 : decode cX9_readText 16 = .ok (.invokevirtual 160, 3) := by decide +kernel
theorem dX9_readText_19 : decode cX9_readText 19 = .ok (.iconst (-1), 1) := by decide +kernel
theorem dX9_readText_20 : decode cX9_readText 20 = .ok (.if_icmp .eq 25, 3) := by decide +kernel
theorem dX9_readText_23 : decode cX9_readText 23 = .ok (.aload_n 0, 1) := by decide +kernel
theorem dX9_readText_24 : decode cX9_readText 24 = .ok (.invokevirtual 246, 3) := by decide +kernel
theorem dX9_readText_27 : decode cX9_readText 27 = .ok (.ifCond .ne 5, 3) := by decide +kernel
theorem dX9_readText_30 : decode cX9_readText 30 = .ok (.iconst 0, 1) := by decide +kernel
theorem dX9_readText_31 : decode cX9_readText 31 = .ok (.ireturn, 1) := by decide +kernel
theorem dX9_readText_32 : decode cX9_readText 32 = .ok (.aload_n 0, 1) := by decide +kernel
theorem dX9_readText_33 : decode cX9_readText 33 = .ok (.dup, 1) := by decide +kernel
theorem dX9_readText_34 : decode cX9_readText 34 = .ok (.getfield 243, 3) := by decide +kernel
theorem dX9_readText_37 : decode cX9_readText 37 = .ok (.iconst 1, 1) := by decide +kernel
theorem dX9_readText_38 : decode cX9_readText 38 = .ok (.iadd, 1) := by decide +kernel
theorem dX9_readText_39 : decode cX9_readText 39 = .ok (.putfield 243, 3) := by decide +kernel
theorem dX9_readText_42 : decode cX9_readText 42 = .ok (.goto (-27), 3) := by decide +kernel
theorem dX9_readText_45 : decode cX9_readText 45 = .ok (.iconst 1, 1) := by decide +kernel
theorem dX9_readText_46 : decode cX9_readText 46 = .ok (.ireturn, 1) := by decide +kernel
theorem dX9_tell_0 : decode cX9_tell 0 = .ok (.aload_n 0, 1) := by decide +kernel
theorem dX9_tell_1 : decode cX9_tell 1 = .ok (.iconst 0, 1) := by decide +kernel
theorem dX9_tell_2 : decode cX9_tell 2 = .ok (.putfield 35, 3) := by decide +kernel
theorem dX9_tell_5 : decode cX9_tell 5 = .ok (.iconst 0, 1) := by decide +kernel
theorem dX9_tell_6 : decode cX9_tell 6 = .ok (.istore_n 1, 1) := by decide +kernel
theorem dX9_tell_7 : decode cX9_tell 7 = .ok (.iload_n 1, 1) := by decide +kernel
theorem dX9_tell_8 : decode cX9_tell 8 = .ok (.sipush 641, 3) := by decide +kernel
theorem dX9_tell_11 : decode cX9_tell 11 = .ok (.if_icmp .ge 21, 3) := by decide +kernel
theorem dX9_tell_14 : decode cX9_tell 14 = .ok (.aload_n 0, 1) := by decide +kernel
theorem dX9_tell_15 : decode cX9_tell 15 = .ok (.getfield 13, 3) := by decide +kernel
theorem dX9_tell_18 : decode cX9_tell 18 = .ok (.iload_n 1, 1) := by decide +kernel
theorem dX9_tell_19 : decode cX9_tell 19 = .ok (.aload_n 0, 1) := by decide +kernel
theorem dX9_tell_20 : decode cX9_tell 20 = .ok (.getfield 7, 3) := by decide +kernel
theorem dX9_tell_23 : decode cX9_tell 23 = .ok (.iload_n 1, 1) := by decide +kernel
theorem dX9_tell_24 : decode cX9_tell 24 = .ok (.iaload, 1) := by decide +kernel
theorem dX9_tell_25 : decode cX9_tell 25 = .ok (.iastore, 1) := by decide +kernel
theorem dX9_tell_26 : decode cX9_tell 26 = .ok (.iinc 1 1, 3) := by decide +kernel
theorem dX9_tell_29 : decode cX9_tell 29 = .ok (.goto (-22), 3) := by decide +kernel
theorem dX9_tell_32 : decode cX9_tell 32 = .ok (.aload_n 0, 1) := by decide +kernel
theorem dX9_tell_33 : decode cX9_tell 33 = .ok (.invokevirtual 249, 3) := by decide +kernel
theorem dX9_tell_36 : decode cX9_tell 36 = .ok (.istore_n 1, 1) := by decide +kernel
theorem dX9_tell_37 : decode cX9_tell 37 = .ok (.aload_n 0, 1) := by decide +kernel
theorem dX9_tell_38 : decode cX9_tell 38 = .ok (.iconst 0, 1) := by decide +kernel
theorem dX9_tell_39 : decode cX9_tell 39 = .ok (.putfield 148, 3) := by decide +kernel
theorem dX9_tell_42 : decode cX9_tell 42 = .ok (.aload_n 0, 1) := by decide +kernel
theorem dX9_tell_43 : decode cX9_tell 43 = .ok (.aload_n 0, 1) := by decide +kernel
theorem dX9_tell_44 : decode cX9_tell 44 = .ok (.getfield 157, 3) := by decide +kernel
theorem dX9_tell_47 : decode cX9_tell 47 = .ok (.putfield 252, 3) := by decide +kernel
theorem dX9_tell_50 : decode cX9_tell 50 = .ok (.iload_n 1, 1) := by decide +kernel
theorem dX9_tell_51 : decode cX9_tell 51 = .ok (.ifCond .eq 8, 3) := by decide +kernel
theorem dX9_tell_54 : decode cX9_tell 54 = .ok (.aload_n 0, 1) := by decide +kernel
theorem dX9_tell_55 : decode cX9_tell 55 = .ok (.getfield 243, 3) := by decide +kernel
theorem dX9_tell_58 : decode cX9_tell 58 = .ok (.ireturn, 1) := by decide +kernel
theorem dX9_tell_59 : decode cX9_tell 59 = .ok (.iconst 0, 1) := by decide +kernel
theorem dX9_tell_60 : decode cX9_tell 60 = .ok (.istore_n 2, 1) := by decide +kernel
theorem dX9_tell_61 : decode cX9_tell 61 = .ok (.iload_n 2, 1) := by decide +kernel
theorem dX9_tell_62 : decode cX9_tell 62 = .ok (.sipush 641, 3) := by decide +kernel
theorem dX9_tell_65 : decode cX9_tell 65 = .ok (.if_icmp .ge 21, 3) := by decide +kernel
theorem dX9_tell_68 : decode cX9_tell 68 = .ok (.aload_n 0, 1) := by decide +kernel
theorem dX9_tell_69 : decode cX9_tell 69 = .ok (.getfield 7, 3) := by decide +kernel
theorem dX9_tell_72 : decode cX9_tell 72 = .ok (.iload_n 2, 1) := by decide +kernel
theorem dX9_tell_73 : decode cX9_tell 73 = .ok (.aload_n 0, 1) := by decide +kernel
theorem dX9_tell_74 : decode cX9_tell 74 = .ok (.getfield 13, 3) := by decide +kernel
theorem dX9_tell_77 : decode cX9_tell 77 = .ok (.iload_n 2, 1) := by decide +kernel
theorem dX9_tell_78 : decode cX9_tell 78 = .ok (.iaload, 1) := by decide +kernel
theorem dX9_tell_79 : decode cX9_tell 79 = .ok (.iastore, 1) := by decide +kernel
theorem dX9_tell_80 : decode cX9_tell 80 = .ok (.iinc 2 1, 3) := by decide +kernel
theorem dX9_tell_83 : decode cX9_tell 83 = .ok (.goto (-22), 3) := by decide +kernel
theorem dX9_tell_86 : decode cX9_tell 86 = .ok (.iconst (-1), 1) := by decide +kernel
theorem dX9_tell_87 : decode cX9_tell 87 = .ok (.ireturn, 1) := by decide +kernel
theorem dX9_fault_0 : decode cX9_fault 0 = .ok (.aload_n 0, 1) := by decide +kernel
theorem dX9_fault_1 : decode cX9_fault 1 = .ok (.iconst 0, 1) := by decide +kernel
theorem dX9_fault_2 : decode cX9_fault 2 = .ok (.putfield 35, 3) := by decide +kernel
theorem dX9_fault_5 : decode cX9_fault 5 = .ok (.aload_n 0, 1) := by decide +kernel
theorem dX9_fault_6 : decode cX9_fault 6 = .ok (.getfield 252, 3) := by decide +kernel
theorem dX9_fault_9 : decode cX9_fault 9 = .ok (.ireturn, 1) := by decide +kernel
theorem dX9_count_0 : decode cX9_count 0 = .ok (.aload_n 0, 1) := by decide +kernel
theorem dX9_count_1 : decode cX9_count 1 = .ok (.iconst 0, 1) := by decide +kernel
theorem dX9_count_2 : decode cX9_count 2 = .ok (.putfield 35, 3) := by decide +kernel
theorem dX9_count_5 : decode cX9_count 5 = .ok (.iload_n 1, 1) := by decide +kernel
theorem dX9_count_6 : decode cX9_count 6 = .ok (.iconst 5, 1) := by decide +kernel
theorem dX9_count_7 : decode cX9_count 7 = .ok (.if_icmp .ne 10, 3) := by decide +kernel
theorem dX9_count_10 : decode cX9_count 10 = .ok (.aload_n 0, 1) := by decide +kernel
theorem dX9_count_11 : decode cX9_count 11 = .ok (.getfield 148, 3) := by decide +kernel
theorem dX9_count_14 : decode cX9_count 14 = .ok (.goto 22, 3) := by decide +kernel
theorem dX9_count_17 : decode cX9_count 17 = .ok (.iload_n 1, 1) := by decide +kernel
theorem dX9_count_18 : decode cX9_count 18 = .ok (.iconst 0, 1) := by decide +kernel
theorem dX9_count_19 : decode cX9_count 19 = .ok (.iconst 4, 1) := by decide +kernel
theorem dX9_count_20 : decode cX9_count 20 = .ok (.invokestatic 39, 3) := by decide +kernel
theorem dX9_count_23 : decode cX9_count 23 = .ok (.ifCond .eq 12, 3) := by decide +kernel
theorem dX9_count_26 : decode cX9_count 26 = .ok (.aload_n 0, 1) := by decide +kernel
theorem dX9_count_27 : decode cX9_count 27 = .ok (.getfield 7, 3) := by decide +kernel
theorem dX9_count_30 : decode cX9_count 30 = .ok (.iload_n 1, 1) := by decide +kernel
theorem dX9_count_31 : decode cX9_count 31 = .ok (.iaload, 1) := by decide +kernel
theorem dX9_count_32 : decode cX9_count 32 = .ok (.goto 4, 3) := by decide +kernel
theorem dX9_count_35 : decode cX9_count 35 = .ok (.iconst (-1), 1) := by decide +kernel
theorem dX9_count_36 : decode cX9_count 36 = .ok (.ireturn, 1) := by decide +kernel
theorem dX9_of_0 : decode cX9_of 0 = .ok (.aload_n 0, 1) := by decide +kernel
theorem dX9_of_1 : decode cX9_of 1 = .ok (.aload_n 0, 1) := by decide +kernel
theorem dX9_of_2 : decode cX9_of 2 = .ok (.iload_n 1, 1) := by decide +kernel
theorem dX9_of_3 : decode cX9_of 3 = .ok (.invokevirtual 122, 3) := by decide +kernel
theorem dX9_of_6 : decode cX9_of 6 = .ok (.ifCond .eq 27, 3) := by decide +kernel
theorem dX9_of_9 : decode cX9_of 9 = .ok (.iload_n 2, 1) := by decide +kernel
theorem dX9_of_10 : decode cX9_of 10 = .ok (.iconst 0, 1) := by decide +kernel
theorem dX9_of_11 : decode cX9_of 11 = .ok (.iconst 3, 1) := by decide +kernel
theorem dX9_of_12 : decode cX9_of 12 = .ok (.invokestatic 39, 3) := by decide +kernel
theorem dX9_of_15 : decode cX9_of 15 = .ok (.ifCond .ne 14, 3) := by decide +kernel
theorem dX9_of_18 : decode cX9_of 18 = .ok (.iload_n 2, 1) := by decide +kernel
theorem dX9_of_19 : decode cX9_of 19 = .ok (.bipush 10, 2) := by decide +kernel
theorem dX9_of_21 : decode cX9_of 21 = .ok (.bipush 13, 2) := by decide +kernel
theorem dX9_of_23 : decode cX9_of 23 = .ok (.invokestatic 39, 3) := by decide +kernel
theorem dX9_of_26 : decode cX9_of 26 = .ok (.ifCond .eq 7, 3) := by decide +kernel
theorem dX9_of_29 : decode cX9_of 29 = .ok (.iconst 0, 1) := by decide +kernel
theorem dX9_of_30 : decode cX9_of 30 = .ok (.goto 4, 3) := by decide +kernel
theorem dX9_of_33 : decode cX9_of 33 = .ok (.iconst 1, 1) := by decide +kernel
theorem dX9_of_34 : decode cX9_of 34 = .ok (.putfield 35, 3) := by decide +kernel
theorem dX9_of_37 : decode cX9_of 37 = .ok (.aload_n 0, 1) := by decide +kernel
theorem dX9_of_38 : decode cX9_of 38 = .ok (.getfield 35, 3) := by decide +kernel
theorem dX9_of_41 : decode cX9_of 41 = .ok (.ifCond .le 5, 3) := by decide +kernel
theorem dX9_of_44 : decode cX9_of 44 = .ok (.iconst 0, 1) := by decide +kernel
theorem dX9_of_45 : decode cX9_of 45 = .ok (.ireturn, 1) := by decide +kernel
theorem dX9_of_46 : decode cX9_of 46 = .ok (.iload_n 2, 1) := by decide +kernel
theorem dX9_of_47 : decode cX9_of 47 = .ok (.tableswitch 72 0 3 #[29, 38, 48, 60], 29) := by decide +kernel
theorem dX9_of_76 : decode cX9_of 76 = .ok (.aload_n 0, 1) := by decide +kernel
theorem dX9_of_77 : decode cX9_of 77 = .ok (.getfield 7, 3) := by decide +kernel
theorem dX9_of_80 : decode cX9_of 80 = .ok (.iconst 5, 1) := by decide +kernel
theorem dX9_of_81 : decode cX9_of 81 = .ok (.iload_n 1, 1) := by decide +kernel
theorem dX9_of_82 : decode cX9_of 82 = .ok (.iadd, 1) := by decide +kernel
theorem dX9_of_83 : decode cX9_of 83 = .ok (.iaload, 1) := by decide +kernel
theorem dX9_of_84 : decode cX9_of 84 = .ok (.ireturn, 1) := by decide +kernel
theorem dX9_of_85 : decode cX9_of 85 = .ok (.aload_n 0, 1) := by decide +kernel
theorem dX9_of_86 : decode cX9_of 86 = .ok (.getfield 7, 3) := by decide +kernel
theorem dX9_of_89 : decode cX9_of 89 = .ok (.bipush 13, 2) := by decide +kernel
theorem dX9_of_91 : decode cX9_of 91 = .ok (.iload_n 1, 1) := by decide +kernel
theorem dX9_of_92 : decode cX9_of 92 = .ok (.iadd, 1) := by decide +kernel
theorem dX9_of_93 : decode cX9_of 93 = .ok (.iaload, 1) := by decide +kernel
theorem dX9_of_94 : decode cX9_of 94 = .ok (.ireturn, 1) := by decide +kernel
theorem dX9_of_95 : decode cX9_of 95 = .ok (.aload_n 0, 1) := by decide +kernel
theorem dX9_of_96 : decode cX9_of 96 = .ok (.iload_n 1, 1) := by decide +kernel
theorem dX9_of_97 : decode cX9_of 97 = .ok (.aload_n 0, 1) := by decide +kernel
theorem dX9_of_98 : decode cX9_of 98 = .ok (.getfield 7, 3) := by decide +kernel
theorem dX9_of_101 : decode cX9_of 101 = .ok (.iconst 0, 1) := by decide +kernel
theorem dX9_of_102 : decode cX9_of 102 = .ok (.iaload, 1) := by decide +kernel
theorem dX9_of_103 : decode cX9_of 103 = .ok (.invokevirtual 53, 3) := by decide +kernel
theorem dX9_of_106 : decode cX9_of 106 = .ok (.ireturn, 1) := by decide +kernel
theorem dX9_of_107 : decode cX9_of 107 = .ok (.aload_n 0, 1) := by decide +kernel
theorem dX9_of_108 : decode cX9_of 108 = .ok (.iload_n 1, 1) := by decide +kernel
theorem dX9_of_109 : decode cX9_of 109 = .ok (.aload_n 0, 1) := by decide +kernel
theorem dX9_of_110 : decode cX9_of 110 = .ok (.getfield 7, 3) := by decide +kernel
theorem dX9_of_113 : decode cX9_of 113 = .ok (.iconst 0, 1) := by decide +kernel
theorem dX9_of_114 : decode cX9_of 114 = .ok (.iaload, 1) := by decide +kernel
theorem dX9_of_115 : decode cX9_of 115 = .ok (.invokevirtual 56, 3) := by decide +kernel
theorem dX9_of_118 : decode cX9_of 118 = .ok (.ireturn, 1) := by decide +kernel
theorem dX9_of_119 : decode cX9_of 119 = .ok (.aload_n 0, 1) := by decide +kernel
theorem dX9_of_120 : decode cX9_of 120 = .ok (.iload_n 2, 1) := by decide +kernel
theorem dX9_of_121 : decode cX9_of 121 = .ok (.bipush 10, 2) := by decide +kernel
theorem dX9_of_123 : decode cX9_of 123 = .ok (.isub, 1) := by decide +kernel
theorem dX9_of_124 : decode cX9_of 124 = .ok (.iload_n 1, 1) := by decide +kernel
theorem dX9_of_125 : decode cX9_of 125 = .ok (.invokevirtual 50, 3) := by decide +kernel
theorem dX9_of_128 : decode cX9_of 128 = .ok (.ireturn, 1) := by decide +kernel
theorem dX9_isSlot_0 : decode cX9_isSlot 0 = .ok (.iload_n 1, 1) := by decide +kernel
theorem dX9_isSlot_1 : decode cX9_isSlot 1 = .ok (.iconst 0, 1) := by decide +kernel
theorem dX9_isSlot_2 : decode cX9_isSlot 2 = .ok (.aload_n 0, 1) := by decide +kernel
theorem dX9_isSlot_3 : decode cX9_isSlot 3 = .ok (.getfield 7, 3) := by decide +kernel
theorem dX9_isSlot_6 : decode cX9_isSlot 6 = .ok (.iconst 0, 1) := by decide +kernel
theorem dX9_isSlot_7 : decode cX9_isSlot 7 = .ok (.iaload, 1) := by decide +kernel
theorem dX9_isSlot_8 : decode cX9_isSlot 8 = .ok (.iconst 1, 1) := by decide +kernel
theorem dX9_isSlot_9 : decode cX9_isSlot 9 = .ok (.isub, 1) := by decide +kernel
theorem dX9_isSlot_10 : decode cX9_isSlot 10 = .ok (.invokestatic 39, 3) := by decide +kernel
theorem dX9_isSlot_13 : decode cX9_isSlot 13 = .ok (.ireturn, 1) := by decide +kernel
theorem dX9_slot_0 : decode cX9_slot 0 = .ok (.aload_n 0, 1) := by decide +kernel
theorem dX9_slot_1 : decode cX9_slot 1 = .ok (.iconst 0, 1) := by decide +kernel
theorem dX9_slot_2 : decode cX9_slot 2 = .ok (.putfield 35, 3) := by decide +kernel
theorem dX9_slot_5 : decode cX9_slot 5 = .ok (.aload_n 0, 1) := by decide +kernel
theorem dX9_slot_6 : decode cX9_slot 6 = .ok (.iload_n 1, 1) := by decide +kernel
theorem dX9_slot_7 : decode cX9_slot 7 = .ok (.invokevirtual 122, 3) := by decide +kernel
theorem dX9_slot_10 : decode cX9_slot 10 = .ok (.ifCond .eq 46, 3) := by decide +kernel
theorem dX9_slot_13 : decode cX9_slot 13 = .ok (.aload_n 0, 1) := by decide +kernel
theorem dX9_slot_14 : decode cX9_slot 14 = .ok (.iload_n 2, 1) := by decide +kernel
theorem dX9_slot_15 : decode cX9_slot 15 = .ok (.invokevirtual 255, 3) := by decide +kernel
theorem dX9_slot_18 : decode cX9_slot 18 = .ok (.ifCond .eq 38, 3) := by decide +kernel
theorem dX9_slot_21 : decode cX9_slot 21 = .ok (.aload_n 0, 1) := by decide +kernel
theorem dX9_slot_22 : decode cX9_slot 22 = .ok (.iload_n 1, 1) := by decide +kernel
theorem dX9_slot_23 : decode cX9_slot 23 = .ok (.aload_n 0, 1) := by decide +kernel
theorem dX9_slot_24 : decode cX9_slot 24 = .ok (.getfield 7, 3) := by decide +kernel
theorem dX9_slot_27 : decode cX9_slot 27 = .ok (.iconst 0, 1) := by decide +kernel
theorem dX9_slot_28 : decode cX9_slot 28 = .ok (.iaload, 1) := by decide +kernel
theorem dX9_slot_29 : decode cX9_slot 29 = .ok (.invokevirtual 53, 3) := by decide +kernel
theorem dX9_slot_32 : decode cX9_slot 32 = .ok (.iload_n 2, 1) := by decide +kernel
theorem dX9_slot_33 : decode cX9_slot 33 = .ok (.aload_n 0, 1) := by decide +kernel
theorem dX9_slot_34 : decode cX9_slot 34 = .ok (.iload_n 1, 1) := by decide +kernel
theorem dX9_slot_35 : decode cX9_slot 35 = .ok (.aload_n 0, 1) := by decide +kernel
theorem dX9_slot_36 : decode cX9_slot 36 = .ok (.getfield 7, 3) := by decide +kernel
theorem dX9_slot_39 : decode cX9_slot 39 = .ok (.iconst 0, 1) := by decide +kernel
theorem dX9_slot_40 : decode cX9_slot 40 = .ok (.iaload, 1) := by decide +kernel
theorem dX9_slot_41 : decode cX9_slot 41 = .ok (.invokevirtual 56, 3) := by decide +kernel
theorem dX9_slot_44 : decode cX9_slot 44 = .ok (.imul, 1) := by decide +kernel
theorem dX9_slot_45 : decode cX9_slot 45 = .ok (.iadd, 1) := by decide +kernel
theorem dX9_slot_46 : decode cX9_slot 46 = .ok (.aload_n 0, 1) := by decide +kernel
theorem dX9_slot_47 : decode cX9_slot 47 = .ok (.getfield 7, 3) := by decide +kernel
theorem dX9_slot_50 : decode cX9_slot 50 = .ok (.iconst 0, 1) := by decide +kernel
theorem dX9_slot_51 : decode cX9_slot 51 = .ok (.iaload, 1) := by decide +kernel
theorem dX9_slot_52 : decode cX9_slot 52 = .ok (.irem, 1) := by decide +kernel
theorem dX9_slot_53 : decode cX9_slot 53 = .ok (.goto 4, 3) := by decide +kernel
theorem dX9_slot_56 : decode cX9_slot 56 = .ok (.iconst (-1), 1) := by decide +kernel
theorem dX9_slot_57 : decode cX9_slot 57 = .ok (.ireturn, 1) := by decide +kernel
theorem dX9_table_0 : decode cX9_table 0 = .ok (.aload_n 0, 1) := by decide +kernel
theorem dX9_table_1 : decode cX9_table 1 = .ok (.iconst 0, 1) := by decide +kernel
theorem dX9_table_2 : decode cX9_table 2 = .ok (.putfield 35, 3) := by decide +kernel
theorem dX9_table_5 : decode cX9_table 5 = .ok (.iload_n 1, 1) := by decide +kernel
theorem dX9_table_6 : decode cX9_table 6 = .ok (.invokestatic 125, 3) := by decide +kernel
theorem dX9_table_9 : decode cX9_table 9 = .ok (.ifCond .eq 11, 3) := by decide +kernel
theorem dX9_table_12 : decode cX9_table 12 = .ok (.aload_n 0, 1) := by decide +kernel
theorem dX9_table_13 : decode cX9_table 13 = .ok (.iload_n 2, 1) := by decide +kernel
theorem dX9_table_14 : decode cX9_table 14 = .ok (.invokevirtual 255, 3) := by decide +kernel
theorem dX9_table_17 : decode cX9_table 17 = .ok (.ifCond .ne 5, 3) := by decide +kernel
theorem dX9_table_20 : decode cX9_table 20 = .ok (.iconst (-1), 1) := by decide +kernel
theorem dX9_table_21 : decode cX9_table 21 = .ok (.ireturn, 1) := by decide +kernel
theorem dX9_table_22 : decode cX9_table 22 = .ok (.aload_n 0, 1) := by decide +kernel
theorem dX9_table_23 : decode cX9_table 23 = .ok (.iload_n 1, 1) := by decide +kernel
theorem dX9_table_24 : decode cX9_table 24 = .ok (.invokevirtual 94, 3) := by decide +kernel
theorem dX9_table_27 : decode cX9_table 27 = .ok (.aload_n 0, 1) := by decide +kernel
theorem dX9_table_28 : decode cX9_table 28 = .ok (.getfield 16, 3) := by decide +kernel
theorem dX9_table_31 : decode cX9_table 31 = .ok (.iload_n 2, 1) := by decide +kernel
theorem dX9_table_32 : decode cX9_table 32 = .ok (.iaload, 1) := by decide +kernel
theorem dX9_table_33 : decode cX9_table 33 = .ok (.ireturn, 1) := by decide +kernel
theorem dX9_sharedBy_0 : decode cX9_sharedBy 0 = .ok (.iconst 0, 1) := by decide +kernel
theorem dX9_sharedBy_1 : decode cX9_sharedBy 1 = .ok (.istore_n 3, 1) := by decide +kernel
theorem dX9_sharedBy_2 : decode cX9_sharedBy 2 = .ok (.iconst 0, 1) := by decide +kernel
theorem dX9_sharedBy_3 : decode cX9_sharedBy 3 = .ok (.istore 4, 2) := by decide +kernel
theorem dX9_sharedBy_5 : decode cX9_sharedBy 5 = .ok (.iload 4, 2) := by decide +kernel
theorem dX9_sharedBy_7 : decode cX9_sharedBy 7 = .ok (.iload_n 2, 1) := by decide +kernel
theorem dX9_sharedBy_8 : decode cX9_sharedBy 8 = .ok (.if_icmp .ge 28, 3) := by decide +kernel
theorem dX9_sharedBy_11 : decode cX9_sharedBy 11 = .ok (.iload_n 3, 1) := by decide +kernel
theorem dX9_sharedBy_12 : decode cX9_sharedBy 12 = .ok (.aload_n 0, 1) := by decide +kernel
theorem dX9_sharedBy_13 : decode cX9_sharedBy 13 = .ok (.getfield 16, 3) := by decide +kernel
theorem dX9_sharedBy_16 : decode cX9_sharedBy 16 = .ok (.iload 4, 2) := by decide +kernel
theorem dX9_sharedBy_18 : decode cX9_sharedBy 18 = .ok (.iaload, 1) := by decide +kernel
theorem dX9_sharedBy_19 : decode cX9_sharedBy 19 = .ok (.iload_n 1, 1) := by decide +kernel
theorem dX9_sharedBy_20 : decode cX9_sharedBy 20 = .ok (.if_icmp .ne 7, 3) := by decide +kernel
theorem dX9_sharedBy_23 : decode cX9_sharedBy 23 = .ok (.iconst 1, 1) := by decide +kernel
theorem dX9_sharedBy_24 : decode cX9_sharedBy 24 = .ok (.goto 4, 3) := by decide +kernel
theorem dX9_sharedBy_27 : decode cX9_sharedBy 27 = .ok (.iconst 0, 1) := by decide +kernel
theorem dX9_sharedBy_28 : decode cX9_sharedBy 28 = .ok (.iadd, 1) := by decide +kernel
theorem dX9_sharedBy_29 : decode cX9_sharedBy 29 = .ok (.istore_n 3, 1) := by decide +kernel
theorem dX9_sharedBy_30 : decode cX9_sharedBy 30 = .ok (.iinc 4 1, 3) := by decide +kernel
theorem dX9_sharedBy_33 : decode cX9_sharedBy 33 = .ok (.goto (-28), 3) := by decide +kernel
theorem dX9_sharedBy_36 : decode cX9_sharedBy 36 = .ok (.iload_n 3, 1) := by decide +kernel
theorem dX9_sharedBy_37 : decode cX9_sharedBy 37 = .ok (.ireturn, 1) := by decide +kernel
theorem dX9_share_0 : decode cX9_share 0 = .ok (.aload_n 0, 1) := by decide +kernel
theorem dX9_share_1 : decode cX9_share 1 = .ok (.iconst 0, 1) := by decide +kernel
theorem dX9_share_2 : decode cX9_share 2 = .ok (.putfield 35, 3) := by decide +kernel
theorem dX9_share_5 : decode cX9_share 5 = .ok (.iload_n 1, 1) := by decide +kernel
theorem dX9_share_6 : decode cX9_share 6 = .ok (.invokestatic 125, 3) := by decide +kernel
theorem dX9_share_9 : decode cX9_share 9 = .ok (.ifCond .eq 11, 3) := by decide +kernel
theorem dX9_share_12 : decode cX9_share 12 = .ok (.aload_n 0, 1) := by decide +kernel
theorem dX9_share_13 : decode cX9_share 13 = .ok (.iload_n 2, 1) := by decide +kernel
theorem dX9_share_14 : decode cX9_share 14 = .ok (.invokevirtual 122, 3) := by decide +kernel
theorem dX9_share_17 : decode cX9_share 17 = .ok (.ifCond .ne 5, 3) := by decide +kernel
theorem dX9_share_20 : decode cX9_share 20 = .ok (.iconst (-1), 1) := by decide +kernel
theorem dX9_share_21 : decode cX9_share 21 = .ok (.ireturn, 1) := by decide +kernel
theorem dX9_share_22 : decode cX9_share 22 = .ok (.aload_n 0, 1) := by decide +kernel
theorem dX9_share_23 : decode cX9_share 23 = .ok (.iload_n 1, 1) := by decide +kernel
theorem dX9_share_24 : decode cX9_share 24 = .ok (.invokevirtual 94, 3) := by decide +kernel
theorem dX9_share_27 : decode cX9_share 27 = .ok (.aload_n 0, 1) := by decide +kernel
theorem dX9_share_28 : decode cX9_share 28 = .ok (.iload_n 2, 1) := by decide +kernel
theorem dX9_share_29 : decode cX9_share 29 = .ok (.aload_n 0, 1) := by decide +kernel
theorem dX9_share_30 : decode cX9_share 30 = .ok (.getfield 7, 3) := by decide +kernel
theorem dX9_share_33 : decode cX9_share 33 = .ok (.iconst 0, 1) := by decide +kernel
theorem dX9_share_34 : decode cX9_share 34 = .ok (.iaload, 1) := by decide +kernel
theorem dX9_share_35 : decode cX9_share 35 = .ok (.invokevirtual 258, 3) := by decide +kernel
theorem dX9_share_38 : decode cX9_share 38 = .ok (.ireturn, 1) := by decide +kernel
theorem dX9_shareBits_0 : decode cX9_shareBits 0 = .ok (.aload_n 0, 1) := by decide +kernel
theorem dX9_shareBits_1 : decode cX9_shareBits 1 = .ok (.iconst 0, 1) := by decide +kernel
theorem dX9_shareBits_2 : decode cX9_shareBits 2 = .ok (.putfield 35, 3) := by decide +kernel
theorem dX9_shareBits_5 : decode cX9_shareBits 5 = .ok (.iload_n 1, 1) := by decide +kernel
theorem dX9_shareBits_6 : decode cX9_shareBits 6 = .ok (.invokestatic 125, 3) := by decide +kernel
theorem dX9_shareBits_9 : decode cX9_shareBits 9 = .ok (.ifCond .eq 11, 3) := by decide +kernel
theorem dX9_shareBits_12 : decode cX9_shareBits 12 = .ok (.aload_n 0, 1) := by decide +kernel
theorem dX9_shareBits_13 : decode cX9_shareBits 13 = .ok (.iload_n 2, 1) := by decide +kernel
theorem dX9_shareBits_14 : decode cX9_shareBits 14 = .ok (.invokevirtual 122, 3) := by decide +kernel
theorem dX9_shareBits_17 : decode cX9_shareBits 17 = .ok (.ifCond .ne 5, 3) := by decide +kernel
theorem dX9_shareBits_20 : decode cX9_shareBits 20 = .ok (.iconst (-1), 1) := by decide +kernel
theorem dX9_shareBits_21 : decode cX9_shareBits 21 = .ok (.ireturn, 1) := by decide +kernel
theorem dX9_shareBits_22 : decode cX9_shareBits 22 = .ok (.aload_n 0, 1) := by decide +kernel
theorem dX9_shareBits_23 : decode cX9_shareBits 23 = .ok (.iload_n 1, 1) := by decide +kernel
theorem dX9_shareBits_24 : decode cX9_shareBits 24 = .ok (.invokevirtual 94, 3) := by decide +kernel
theorem dX9_shareBits_27 : decode cX9_shareBits 27 = .ok (.aload_n 0, 1) := by decide +kernel
theorem dX9_shareBits_28 : decode cX9_shareBits 28 = .ok (.iload_n 2, 1) := by decide +kernel
theorem dX9_shareBits_29 : decode cX9_shareBits 29 = .ok (.aload_n 0, 1) := by decide +kernel
theorem dX9_shareBits_30 : decode cX9_shareBits 30 = .ok (.getfield 7, 3) := by decide +kernel
theorem dX9_shareBits_33 : decode cX9_shareBits 33 = .ok (.iconst 0, 1) := by decide +kernel
theorem dX9_shareBits_34 : decode cX9_shareBits 34 = .ok (.iaload, 1) := by decide +kernel
theorem dX9_shareBits_35 : decode cX9_shareBits 35 = .ok (.invokevirtual 258, 3) := by decide +kernel
theorem dX9_shareBits_38 : decode cX9_shareBits 38 = .ok (.i2f, 1) := by decide +kernel
theorem dX9_shareBits_39 : decode cX9_shareBits 39 = .ok (.aload_n 0, 1) := by decide +kernel
theorem dX9_shareBits_40 : decode cX9_shareBits 40 = .ok (.getfield 7, 3) := by decide +kernel
theorem dX9_shareBits_43 : decode cX9_shareBits 43 = .ok (.iconst 0, 1) := by decide +kernel
theorem dX9_shareBits_44 : decode cX9_shareBits 44 = .ok (.iaload, 1) := by decide +kernel
theorem dX9_shareBits_45 : decode cX9_shareBits 45 = .ok (.i2f, 1) := by decide +kernel
theorem dX9_shareBits_46 : decode cX9_shareBits 46 = .ok (.fdiv, 1) := by decide +kernel
theorem dX9_shareBits_47 : decode cX9_shareBits 47 = .ok (.fstore_n 3, 1) := by decide +kernel
theorem dX9_shareBits_48 : decode cX9_shareBits 48 = .ok (.fload_n 3, 1) := by decide +kernel
theorem dX9_shareBits_49 : decode cX9_shareBits 49 = .ok (.invokestatic 261, 3) := by decide +kernel
theorem dX9_shareBits_52 : decode cX9_shareBits 52 = .ok (.ireturn, 1) := by decide +kernel
theorem dX9_unevenBy_0 : decode cX9_unevenBy 0 = .ok (.aload_n 0, 1) := by decide +kernel
theorem dX9_unevenBy_1 : decode cX9_unevenBy 1 = .ok (.iload_n 1, 1) := by decide +kernel
theorem dX9_unevenBy_2 : decode cX9_unevenBy 2 = .ok (.invokevirtual 71, 3) := by decide +kernel
theorem dX9_unevenBy_5 : decode cX9_unevenBy 5 = .ok (.iconst 0, 1) := by decide +kernel
theorem dX9_unevenBy_6 : decode cX9_unevenBy 6 = .ok (.istore_n 2, 1) := by decide +kernel
theorem dX9_unevenBy_7 : decode cX9_unevenBy 7 = .ok (.iconst 0, 1) := by decide +kernel
theorem dX9_unevenBy_8 : decode cX9_unevenBy 8 = .ok (.istore_n 3, 1) := by decide +kernel
theorem dX9_unevenBy_9 : decode cX9_unevenBy 9 = .ok (.iload_n 3, 1) := by decide +kernel
theorem dX9_unevenBy_10 : decode cX9_unevenBy 10 = .ok (.aload_n 0, 1) := by decide +kernel
theorem dX9_unevenBy_11 : decode cX9_unevenBy 11 = .ok (.getfield 7, 3) := by decide +kernel
theorem dX9_unevenBy_14 : decode cX9_unevenBy 14 = .ok (.iconst 1, 1) := by decide +kernel
theorem dX9_unevenBy_15 : decode cX9_unevenBy 15 = .ok (.iaload, 1) := by decide +kernel
theorem dX9_unevenBy_16 : decode cX9_unevenBy 16 = .ok (.if_icmp .ge 34, 3) := by decide +kernel
theorem dX9_unevenBy_19 : decode cX9_unevenBy 19 = .ok (.iload_n 2, 1) := by decide +kernel
theorem dX9_unevenBy_20 : decode cX9_unevenBy 20 = .ok (.aload_n 0, 1) := by decide +kernel
theorem dX9_unevenBy_21 : decode cX9_unevenBy 21 = .ok (.getfield 22, 3) := by decide +kernel
theorem dX9_unevenBy_24 : decode cX9_unevenBy 24 = .ok (.iload_n 3, 1) := by decide +kernel
theorem dX9_unevenBy_25 : decode cX9_unevenBy 25 = .ok (.baload, 1) := by decide +kernel
theorem dX9_unevenBy_26 : decode cX9_unevenBy 26 = .ok (.ifCond .eq 15, 3) := by decide +kernel
theorem dX9_unevenBy_29 : decode cX9_unevenBy 29 = .ok (.aload_n 0, 1) := by decide +kernel
theorem dX9_unevenBy_30 : decode cX9_unevenBy 30 = .ok (.getfield 7, 3) := by decide +kernel
theorem dX9_unevenBy_33 : decode cX9_unevenBy 33 = .ok (.bipush 13, 2) := by decide +kernel
theorem dX9_unevenBy_35 : decode cX9_unevenBy 35 = .ok (.iload_n 3, 1) := by decide +kernel
theorem dX9_unevenBy_36 : decode cX9_unevenBy 36 = .ok (.iadd, 1) := by decide +kernel
theorem dX9_unevenBy_37 : decode cX9_unevenBy 37 = .ok (.iaload, 1) := by decide +kernel
theorem dX9_unevenBy_38 : decode cX9_unevenBy 38 = .ok (.goto 4, 3) := by decide +kernel
theorem dX9_unevenBy_41 : decode cX9_unevenBy 41 = .ok (.iconst 0, 1) := by decide +kernel
theorem dX9_unevenBy_42 : decode cX9_unevenBy 42 = .ok (.iadd, 1) := by decide +kernel
theorem dX9_unevenBy_43 : decode cX9_unevenBy 43 = .ok (.istore_n 2, 1) := by decide +kernel
theorem dX9_unevenBy_44 : decode cX9_unevenBy 44 = .ok (.iinc 3 1, 3) := by decide +kernel
theorem dX9_unevenBy_47 : decode cX9_unevenBy 47 = .ok (.goto (-38), 3) := by decide +kernel
theorem dX9_unevenBy_50 : decode cX9_unevenBy 50 = .ok (.iconst (-1), 1) := by decide +kernel
theorem dX9_unevenBy_51 : decode cX9_unevenBy 51 = .ok (.istore_n 3, 1) := by decide +kernel
theorem dX9_unevenBy_52 : decode cX9_unevenBy 52 = .ok (.iconst 0, 1) := by decide +kernel
theorem dX9_unevenBy_53 : decode cX9_unevenBy 53 = .ok (.istore 4, 2) := by decide +kernel
theorem dX9_unevenBy_55 : decode cX9_unevenBy 55 = .ok (.iload 4, 2) := by decide +kernel
theorem dX9_unevenBy_57 : decode cX9_unevenBy 57 = .ok (.aload_n 0, 1) := by decide +kernel
theorem dX9_unevenBy_58 : decode cX9_unevenBy 58 = .ok (.getfield 7, 3) := by decide +kernel
theorem dX9_unevenBy_61 : decode cX9_unevenBy 61 = .ok (.iconst 1, 1) := by decide +kernel
theorem dX9_unevenBy_62 : decode cX9_unevenBy 62 = .ok (.iaload, 1) := by decide +kernel
theorem dX9_unevenBy_63 : decode cX9_unevenBy 63 = .ok (.if_icmp .ge 71, 3) := by decide +kernel
theorem dX9_unevenBy_66 : decode cX9_unevenBy 66 = .ok (.iload_n 1, 1) := by decide +kernel
theorem dX9_unevenBy_67 : decode cX9_unevenBy 67 = .ok (.aload_n 0, 1) := by decide +kernel
theorem dX9_unevenBy_68 : decode cX9_unevenBy 68 = .ok (.getfield 7, 3) := by decide +kernel
theorem dX9_unevenBy_71 : decode cX9_unevenBy 71 = .ok (.bipush 13, 2) := by decide +kernel
theorem dX9_unevenBy_73 : decode cX9_unevenBy 73 = .ok (.iload 4, 2) := by decide +kernel
theorem dX9_unevenBy_75 : decode cX9_unevenBy 75 = .ok (.iadd, 1) := by decide +kernel
theorem dX9_unevenBy_76 : decode cX9_unevenBy 76 = .ok (.iaload, 1) := by decide +kernel
theorem dX9_unevenBy_77 : decode cX9_unevenBy 77 = .ok (.imul, 1) := by decide +kernel
theorem dX9_unevenBy_78 : decode cX9_unevenBy 78 = .ok (.aload_n 0, 1) := by decide +kernel
theorem dX9_unevenBy_79 : decode cX9_unevenBy 79 = .ok (.iload 4, 2) := by decide +kernel
theorem dX9_unevenBy_81 : decode cX9_unevenBy 81 = .ok (.iload_n 1, 1) := by decide +kernel
theorem dX9_unevenBy_82 : decode cX9_unevenBy 82 = .ok (.invokevirtual 258, 3) := by decide +kernel
theorem dX9_unevenBy_85 : decode cX9_unevenBy 85 = .ok (.iload_n 2, 1) := by decide +kernel
theorem dX9_unevenBy_86 : decode cX9_unevenBy 86 = .ok (.imul, 1) := by decide +kernel
theorem dX9_unevenBy_87 : decode cX9_unevenBy 87 = .ok (.isub, 1) := by decide +kernel
theorem dX9_unevenBy_88 : decode cX9_unevenBy 88 = .ok (.istore 5, 2) := by decide +kernel
theorem dX9_unevenBy_90 : decode cX9_unevenBy 90 = .ok (.iload 5, 2) := by decide +kernel
theorem dX9_unevenBy_92 : decode cX9_unevenBy 92 = .ok (.ifCond .ge 9, 3) := by decide +kernel
theorem dX9_unevenBy_95 : decode cX9_unevenBy 95 = .ok (.iload 5, 2) := by decide +kernel
theorem dX9_unevenBy_97 : decode cX9_unevenBy 97 = .ok (.ineg, 1) := by decide +kernel
theorem dX9_unevenBy_98 : decode cX9_unevenBy 98 = .ok (.goto 5, 3) := by decide +kernel
theorem dX9_unevenBy_101 : decode cX9_unevenBy 101 = .ok (.iload 5, 2) := by decide +kernel
theorem dX9_unevenBy_103 : decode cX9_unevenBy 103 = .ok (.istore 5, 2) := by decide +kernel
theorem dX9_unevenBy_105 : decode cX9_unevenBy 105 = .ok (.aload_n 0, 1) := by decide +kernel
theorem dX9_unevenBy_106 : decode cX9_unevenBy 106 = .ok (.getfield 22, 3) := by decide +kernel
theorem dX9_unevenBy_109 : decode cX9_unevenBy 109 = .ok (.iload 4, 2) := by decide +kernel
theorem dX9_unevenBy_111 : decode cX9_unevenBy 111 = .ok (.baload, 1) := by decide +kernel
theorem dX9_unevenBy_112 : decode cX9_unevenBy 112 = .ok (.ifCond .eq 14, 3) := by decide +kernel
theorem dX9_unevenBy_115 : decode cX9_unevenBy 115 = .ok (.iload 5, 2) := by decide +kernel
theorem dX9_unevenBy_117 : decode cX9_unevenBy 117 = .ok (.iload_n 3, 1) := by decide +kernel
theorem dX9_unevenBy_118 : decode cX9_unevenBy 118 = .ok (.if_icmp .le 8, 3) := by decide +kernel
theorem dX9_unevenBy_121 : decode cX9_unevenBy 121 = .ok (.iload 5, 2) := by decide +kernel
theorem dX9_unevenBy_123 : decode cX9_unevenBy 123 = .ok (.goto 4, 3) := by decide +kernel
theorem dX9_unevenBy_126 : decode cX9_unevenBy 126 = .ok (.iload_n 3, 1) := by decide +kernel
theorem dX9_unevenBy_127 : decode cX9_unevenBy 127 = .ok (.istore_n 3, 1) := by decide +kernel
theorem dX9_unevenBy_128 : decode cX9_unevenBy 128 = .ok (.iinc 4 1, 3) := by decide +kernel
theorem dX9_unevenBy_131 : decode cX9_unevenBy 131 = .ok (.goto (-76), 3) := by decide +kernel
theorem dX9_unevenBy_134 : decode cX9_unevenBy 134 = .ok (.iload_n 3, 1) := by decide +kernel
theorem dX9_unevenBy_135 : decode cX9_unevenBy 135 = .ok (.ireturn, 1) := by decide +kernel
theorem dX9_uneven_0 : decode cX9_uneven 0 = .ok (.aload_n 0, 1) := by decide +kernel
theorem dX9_uneven_1 : decode cX9_uneven 1 = .ok (.iconst 0, 1) := by decide +kernel
theorem dX9_uneven_2 : decode cX9_uneven 2 = .ok (.putfield 35, 3) := by decide +kernel
theorem dX9_uneven_5 : decode cX9_uneven 5 = .ok (.iload_n 1, 1) := by decide +kernel
theorem dX9_uneven_6 : decode cX9_uneven 6 = .ok (.invokestatic 125, 3) := by decide +kernel
theorem dX9_uneven_9 : decode cX9_uneven 9 = .ok (.ifCond .ne 5, 3) := by decide +kernel
theorem dX9_uneven_12 : decode cX9_uneven 12 = .ok (.iconst (-1), 1) := by decide +kernel
theorem dX9_uneven_13 : decode cX9_uneven 13 = .ok (.ireturn, 1) := by decide +kernel
theorem dX9_uneven_14 : decode cX9_uneven 14 = .ok (.aload_n 0, 1) := by decide +kernel
theorem dX9_uneven_15 : decode cX9_uneven 15 = .ok (.iload_n 1, 1) := by decide +kernel
theorem dX9_uneven_16 : decode cX9_uneven 16 = .ok (.invokevirtual 67, 3) := by decide +kernel
theorem dX9_uneven_19 : decode cX9_uneven 19 = .ok (.aload_n 0, 1) := by decide +kernel
theorem dX9_uneven_20 : decode cX9_uneven 20 = .ok (.aload_n 0, 1) := by decide +kernel
theorem dX9_uneven_21 : decode cX9_uneven 21 = .ok (.getfield 7, 3) := by decide +kernel
theorem dX9_uneven_24 : decode cX9_uneven 24 = .ok (.iconst 0, 1) := by decide +kernel
theorem dX9_uneven_25 : decode cX9_uneven 25 = .ok (.iaload, 1) := by decide +kernel
theorem dX9_uneven_26 : decode cX9_uneven 26 = .ok (.invokevirtual 267, 3) := by decide +kernel
theorem dX9_uneven_29 : decode cX9_uneven 29 = .ok (.ireturn, 1) := by decide +kernel
theorem dX9_evenest_0 : decode cX9_evenest 0 = .ok (.aload_n 0, 1) := by decide +kernel
theorem dX9_evenest_1 : decode cX9_evenest 1 = .ok (.iconst 0, 1) := by decide +kernel
theorem dX9_evenest_2 : decode cX9_evenest 2 = .ok (.putfield 35, 3) := by decide +kernel
theorem dX9_evenest_5 : decode cX9_evenest 5 = .ok (.iload_n 1, 1) := by decide +kernel
theorem dX9_evenest_6 : decode cX9_evenest 6 = .ok (.invokestatic 125, 3) := by decide +kernel
theorem dX9_evenest_9 : decode cX9_evenest 9 = .ok (.ifCond .ne 5, 3) := by decide +kernel
theorem dX9_evenest_12 : decode cX9_evenest 12 = .ok (.iconst (-1), 1) := by decide +kernel
theorem dX9_evenest_13 : decode cX9_evenest 13 = .ok (.ireturn, 1) := by decide +kernel
theorem dX9_evenest_14 : decode cX9_evenest 14 = .ok (.aload_n 0, 1) := by decide +kernel
theorem dX9_evenest_15 : decode cX9_evenest 15 = .ok (.iload_n 1, 1) := by decide +kernel
theorem dX9_evenest_16 : decode cX9_evenest 16 = .ok (.invokevirtual 67, 3) := by decide +kernel
theorem dX9_evenest_19 : decode cX9_evenest 19 = .ok (.iconst (-1), 1) := by decide +kernel
theorem dX9_evenest_20 : decode cX9_evenest 20 = .ok (.istore_n 2, 1) := by decide +kernel
theorem dX9_evenest_21 : decode cX9_evenest 21 = .ok (.iconst 0, 1) := by decide +kernel
theorem dX9_evenest_22 : decode cX9_evenest 22 = .ok (.istore_n 3, 1) := by decide +kernel
theorem dX9_evenest_23 : decode cX9_evenest 23 = .ok (.iconst 3, 1) := by decide +kernel
theorem dX9_evenest_24 : decode cX9_evenest 24 = .ok (.istore 4, 2) := by decide +kernel
theorem dX9_evenest_26 : decode cX9_evenest 26 = .ok (.iload 4, 2) := by decide +kernel
theorem dX9_evenest_28 : decode cX9_evenest 28 = .ok (.bipush 97, 2) := by decide +kernel
theorem dX9_evenest_30 : decode cX9_evenest 30 = .ok (.if_icmp .gt 57, 3) := by decide +kernel
theorem dX9_evenest_33 : decode cX9_evenest 33 = .ok (.aload_n 0, 1) := by decide +kernel
theorem dX9_evenest_34 : decode cX9_evenest 34 = .ok (.invokevirtual 59, 3) := by decide +kernel
theorem dX9_evenest_37 : decode cX9_evenest 37 = .ok (.ifCond .le 50, 3) := by decide +kernel
theorem dX9_evenest_40 : decode cX9_evenest 40 = .ok (.iload 4, 2) := by decide +kernel
theorem dX9_evenest_42 : decode cX9_evenest 42 = .ok (.invokestatic 109, 3) := by decide +kernel
theorem dX9_evenest_45 : decode cX9_evenest 45 = .ok (.ifCond .ne 6, 3) := by decide +kernel
theorem dX9_evenest_48 : decode cX9_evenest 48 = .ok (.goto 33, 3) := by decide +kernel
theorem dX9_evenest_51 : decode cX9_evenest 51 = .ok (.aload_n 0, 1) := by decide +kernel
theorem dX9_evenest_52 : decode cX9_evenest 52 = .ok (.iload 4, 2) := by decide +kernel
theorem dX9_evenest_54 : decode cX9_evenest 54 = .ok (.invokevirtual 267, 3) := by decide +kernel
theorem dX9_evenest_57 : decode cX9_evenest 57 = .ok (.istore 5, 2) := by decide +kernel
theorem dX9_evenest_59 : decode cX9_evenest 59 = .ok (.iload_n 2, 1) := by decide +kernel
theorem dX9_evenest_60 : decode cX9_evenest 60 = .ok (.iconst (-1), 1) := by decide +kernel
theorem dX9_evenest_61 : decode cX9_evenest 61 = .ok (.if_icmp .eq 14, 3) := by decide +kernel
theorem dX9_evenest_64 : decode cX9_evenest 64 = .ok (.iload 5, 2) := by decide +kernel
theorem dX9_evenest_66 : decode cX9_evenest 66 = .ok (.iload_n 2, 1) := by decide +kernel
theorem dX9_evenest_67 : decode cX9_evenest 67 = .ok (.imul, 1) := by decide +kernel
theorem dX9_evenest_68 : decode cX9_evenest 68 = .ok (.iload_n 3, 1) := by decide +kernel
theorem dX9_evenest_69 : decode cX9_evenest 69 = .ok (.iload 4, 2) := by decide +kernel
theorem dX9_evenest_71 : decode cX9_evenest 71 = .ok (.imul, 1) := by decide +kernel
theorem dX9_evenest_72 : decode cX9_evenest 72 = .ok (.if_icmp .ge 9, 3) := by decide +kernel
theorem dX9_evenest_75 : decode cX9_evenest 75 = .ok (.iload 4, 2) := by decide +kernel
theorem dX9_evenest_77 : decode cX9_evenest 77 = .ok (.istore_n 2, 1) := by decide +kernel
theorem dX9_evenest_78 : decode cX9_evenest 78 = .ok (.iload 5, 2) := by decide +kernel
theorem dX9_evenest_80 : decode cX9_evenest 80 = .ok (.istore_n 3, 1) := by decide +kernel
theorem dX9_evenest_81 : decode cX9_evenest 81 = .ok (.iinc 4 1, 3) := by decide +kernel
theorem dX9_evenest_84 : decode cX9_evenest 84 = .ok (.goto (-58), 3) := by decide +kernel
theorem dX9_evenest_87 : decode cX9_evenest 87 = .ok (.iload_n 2, 1) := by decide +kernel
theorem dX9_evenest_88 : decode cX9_evenest 88 = .ok (.ireturn, 1) := by decide +kernel
theorem dX9_changed_0 : decode cX9_changed 0 = .ok (.aload_n 0, 1) := by decide +kernel
theorem dX9_changed_1 : decode cX9_changed 1 = .ok (.iconst 0, 1) := by decide +kernel
theorem dX9_changed_2 : decode cX9_changed 2 = .ok (.putfield 35, 3) := by decide +kernel
theorem dX9_changed_5 : decode cX9_changed 5 = .ok (.iload_n 1, 1) := by decide +kernel
theorem dX9_changed_6 : decode cX9_changed 6 = .ok (.invokestatic 125, 3) := by decide +kernel
theorem dX9_changed_9 : decode cX9_changed 9 = .ok (.ifCond .eq 16, 3) := by decide +kernel
theorem dX9_changed_12 : decode cX9_changed 12 = .ok (.aload_n 0, 1) := by decide +kernel
theorem dX9_changed_13 : decode cX9_changed 13 = .ok (.getfield 7, 3) := by decide +kernel
theorem dX9_changed_16 : decode cX9_changed 16 = .ok (.sipush 249, 3) := by decide +kernel
theorem dX9_changed_19 : decode cX9_changed 19 = .ok (.iload_n 1, 1) := by decide +kernel
theorem dX9_changed_20 : decode cX9_changed 20 = .ok (.iadd, 1) := by decide +kernel
theorem dX9_changed_21 : decode cX9_changed 21 = .ok (.iaload, 1) := by decide +kernel
theorem dX9_changed_22 : decode cX9_changed 22 = .ok (.ifCond .ne 5, 3) := by decide +kernel
theorem dX9_changed_25 : decode cX9_changed 25 = .ok (.iconst (-1), 1) := by decide +kernel
theorem dX9_changed_26 : decode cX9_changed 26 = .ok (.ireturn, 1) := by decide +kernel
theorem dX9_changed_27 : decode cX9_changed 27 = .ok (.iload_n 2, 1) := by decide +kernel
theorem dX9_changed_28 : decode cX9_changed 28 = .ok (.bipush 10, 2) := by decide +kernel
theorem dX9_changed_30 : decode cX9_changed 30 = .ok (.bipush 9, 2) := by decide +kernel
theorem dX9_changed_32 : decode cX9_changed 32 = .ok (.aload_n 0, 1) := by decide +kernel
theorem dX9_changed_33 : decode cX9_changed 33 = .ok (.getfield 7, 3) := by decide +kernel
theorem dX9_changed_36 : decode cX9_changed 36 = .ok (.iconst 0, 1) := by decide +kernel
theorem dX9_changed_37 : decode cX9_changed 37 = .ok (.iaload, 1) := by decide +kernel
theorem dX9_changed_38 : decode cX9_changed 38 = .ok (.iadd, 1) := by decide +kernel
theorem dX9_changed_39 : decode cX9_changed 39 = .ok (.invokestatic 39, 3) := by decide +kernel
theorem dX9_changed_42 : decode cX9_changed 42 = .ok (.ifCond .eq 22, 3) := by decide +kernel
theorem dX9_changed_45 : decode cX9_changed 45 = .ok (.aload_n 0, 1) := by decide +kernel
theorem dX9_changed_46 : decode cX9_changed 46 = .ok (.getfield 7, 3) := by decide +kernel
theorem dX9_changed_49 : decode cX9_changed 49 = .ok (.sipush 253, 3) := by decide +kernel
theorem dX9_changed_52 : decode cX9_changed 52 = .ok (.bipush 97, 2) := by decide +kernel
theorem dX9_changed_54 : decode cX9_changed 54 = .ok (.iload_n 1, 1) := by decide +kernel
theorem dX9_changed_55 : decode cX9_changed 55 = .ok (.imul, 1) := by decide +kernel
theorem dX9_changed_56 : decode cX9_changed 56 = .ok (.iadd, 1) := by decide +kernel
theorem dX9_changed_57 : decode cX9_changed 57 = .ok (.iload_n 2, 1) := by decide +kernel
theorem dX9_changed_58 : decode cX9_changed 58 = .ok (.iadd, 1) := by decide +kernel
theorem dX9_changed_59 : decode cX9_changed 59 = .ok (.bipush 10, 2) := by decide +kernel
theorem dX9_changed_61 : decode cX9_changed 61 = .ok (.isub, 1) := by decide +kernel
theorem dX9_changed_62 : decode cX9_changed 62 = .ok (.iaload, 1) := by decide +kernel
theorem dX9_changed_63 : decode cX9_changed 63 = .ok (.ireturn, 1) := by decide +kernel
theorem dX9_changed_64 : decode cX9_changed 64 = .ok (.iload_n 2, 1) := by decide +kernel
theorem dX9_changed_65 : decode cX9_changed 65 = .ok (.iconst 0, 1) := by decide +kernel
theorem dX9_changed_66 : decode cX9_changed 66 = .ok (.iconst 1, 1) := by decide +kernel
theorem dX9_changed_67 : decode cX9_changed 67 = .ok (.invokestatic 39, 3) := by decide +kernel
theorem dX9_changed_70 : decode cX9_changed 70 = .ok (.ifCond .ne 5, 3) := by decide +kernel
theorem dX9_changed_73 : decode cX9_changed 73 = .ok (.iconst (-1), 1) := by decide +kernel
theorem dX9_changed_74 : decode cX9_changed 74 = .ok (.ireturn, 1) := by decide +kernel
theorem dX9_changed_75 : decode cX9_changed 75 = .ok (.aload_n 0, 1) := by decide +kernel
theorem dX9_changed_76 : decode cX9_changed 76 = .ok (.iload_n 1, 1) := by decide +kernel
theorem dX9_changed_77 : decode cX9_changed 77 = .ok (.invokevirtual 94, 3) := by decide +kernel
theorem dX9_changed_80 : decode cX9_changed 80 = .ok (.iconst 0, 1) := by decide +kernel
theorem dX9_changed_81 : decode cX9_changed 81 = .ok (.istore_n 3, 1) := by decide +kernel
theorem dX9_changed_82 : decode cX9_changed 82 = .ok (.iconst 0, 1) := by decide +kernel
theorem dX9_changed_83 : decode cX9_changed 83 = .ok (.istore 4, 2) := by decide +kernel
theorem dX9_changed_85 : decode cX9_changed 85 = .ok (.iload 4, 2) := by decide +kernel
theorem dX9_changed_87 : decode cX9_changed 87 = .ok (.aload_n 0, 1) := by decide +kernel
theorem dX9_changed_88 : decode cX9_changed 88 = .ok (.getfield 7, 3) := by decide +kernel
theorem dX9_changed_91 : decode cX9_changed 91 = .ok (.iconst 0, 1) := by decide +kernel
theorem dX9_changed_92 : decode cX9_changed 92 = .ok (.iaload, 1) := by decide +kernel
theorem dX9_changed_93 : decode cX9_changed 93 = .ok (.if_icmp .ge 67, 3) := by decide +kernel
theorem dX9_changed_96 : decode cX9_changed 96 = .ok (.aload_n 0, 1) := by decide +kernel
theorem dX9_changed_97 : decode cX9_changed 97 = .ok (.getfield 7, 3) := by decide +kernel
theorem dX9_changed_100 : decode cX9_changed 100 = .ok (.sipush 253, 3) := by decide +kernel
theorem dX9_changed_103 : decode cX9_changed 103 = .ok (.bipush 97, 2) := by decide +kernel
theorem dX9_changed_105 : decode cX9_changed 105 = .ok (.iload_n 1, 1) := by decide +kernel
theorem dX9_changed_106 : decode cX9_changed 106 = .ok (.imul, 1) := by decide +kernel
theorem dX9_changed_107 : decode cX9_changed 107 = .ok (.iadd, 1) := by decide +kernel
theorem dX9_changed_108 : decode cX9_changed 108 = .ok (.iload 4, 2) := by decide +kernel
theorem dX9_changed_110 : decode cX9_changed 110 = .ok (.iadd, 1) := by decide +kernel
theorem dX9_changed_111 : decode cX9_changed 111 = .ok (.iaload, 1) := by decide +kernel
theorem dX9_changed_112 : decode cX9_changed 112 = .ok (.istore 5, 2) := by decide +kernel
theorem dX9_changed_114 : decode cX9_changed 114 = .ok (.iload_n 3, 1) := by decide +kernel
theorem dX9_changed_115 : decode cX9_changed 115 = .ok (.iload 5, 2) := by decide +kernel
theorem dX9_changed_117 : decode cX9_changed 117 = .ok (.aload_n 0, 1) := by decide +kernel
theorem dX9_changed_118 : decode cX9_changed 118 = .ok (.getfield 16, 3) := by decide +kernel
theorem dX9_changed_121 : decode cX9_changed 121 = .ok (.iload 4, 2) := by decide +kernel
theorem dX9_changed_123 : decode cX9_changed 123 = .ok (.iaload, 1) := by decide +kernel
theorem dX9_changed_124 : decode cX9_changed 124 = .ok (.if_icmp .eq 27, 3) := by decide +kernel
theorem dX9_changed_127 : decode cX9_changed 127 = .ok (.iload_n 2, 1) := by decide +kernel
theorem dX9_changed_128 : decode cX9_changed 128 = .ok (.ifCond .eq 19, 3) := by decide +kernel
theorem dX9_changed_131 : decode cX9_changed 131 = .ok (.iload 5, 2) := by decide +kernel
theorem dX9_changed_133 : decode cX9_changed 133 = .ok (.iconst (-1), 1) := by decide +kernel
theorem dX9_changed_134 : decode cX9_changed 134 = .ok (.if_icmp .eq 17, 3) := by decide +kernel
theorem dX9_changed_137 : decode cX9_changed 137 = .ok (.aload_n 0, 1) := by decide +kernel
theorem dX9_changed_138 : decode cX9_changed 138 = .ok (.getfield 22, 3) := by decide +kernel
theorem dX9_changed_141 : decode cX9_changed 141 = .ok (.iload 5, 2) := by decide +kernel
theorem dX9_changed_143 : decode cX9_changed 143 = .ok (.baload, 1) := by decide +kernel
theorem dX9_changed_144 : decode cX9_changed 144 = .ok (.ifCond .eq 7, 3) := by decide +kernel
theorem dX9_changed_147 : decode cX9_changed 147 = .ok (.iconst 1, 1) := by decide +kernel
theorem dX9_changed_148 : decode cX9_changed 148 = .ok (.goto 4, 3) := by decide +kernel
theorem dX9_changed_151 : decode cX9_changed 151 = .ok (.iconst 0, 1) := by decide +kernel
theorem dX9_changed_152 : decode cX9_changed 152 = .ok (.iadd, 1) := by decide +kernel
theorem dX9_changed_153 : decode cX9_changed 153 = .ok (.istore_n 3, 1) := by decide +kernel
theorem dX9_changed_154 : decode cX9_changed 154 = .ok (.iinc 4 1, 3) := by decide +kernel
theorem dX9_changed_157 : decode cX9_changed 157 = .ok (.goto (-72), 3) := by decide +kernel
theorem dX9_changed_160 : decode cX9_changed 160 = .ok (.iload_n 3, 1) := by decide +kernel
theorem dX9_changed_161 : decode cX9_changed 161 = .ok (.ireturn, 1) := by decide +kernel
theorem dX9_alike_0 : decode cX9_alike 0 = .ok (.aload_n 0, 1) := by decide +kernel
theorem dX9_alike_1 : decode cX9_alike 1 = .ok (.iconst 0, 1) := by decide +kernel
theorem dX9_alike_2 : decode cX9_alike 2 = .ok (.putfield 35, 3) := by decide +kernel
theorem dX9_alike_5 : decode cX9_alike 5 = .ok (.iload_n 1, 1) := by decide +kernel
theorem dX9_alike_6 : decode cX9_alike 6 = .ok (.invokestatic 125, 3) := by decide +kernel
theorem dX9_alike_9 : decode cX9_alike 9 = .ok (.ifCond .eq 10, 3) := by decide +kernel
theorem dX9_alike_12 : decode cX9_alike 12 = .ok (.iload_n 2, 1) := by decide +kernel
theorem dX9_alike_13 : decode cX9_alike 13 = .ok (.invokestatic 125, 3) := by decide +kernel
theorem dX9_alike_16 : decode cX9_alike 16 = .ok (.ifCond .ne 5, 3) := by decide +kernel
theorem dX9_alike_19 : decode cX9_alike 19 = .ok (.iconst (-1), 1) := by decide +kernel
theorem dX9_alike_20 : decode cX9_alike 20 = .ok (.ireturn, 1) := by decide +kernel
theorem dX9_alike_21 : decode cX9_alike 21 = .ok (.aload_n 0, 1) := by decide +kernel
theorem dX9_alike_22 : decode cX9_alike 22 = .ok (.iload_n 1, 1) := by decide +kernel
theorem dX9_alike_23 : decode cX9_alike 23 = .ok (.invokevirtual 94, 3) := by decide +kernel
theorem dX9_alike_26 : decode cX9_alike 26 = .ok (.aload_n 0, 1) := by decide +kernel
theorem dX9_alike_27 : decode cX9_alike 27 = .ok (.invokevirtual 270, 3) := by decide +kernel
theorem dX9_alike_30 : decode cX9_alike 30 = .ok (.aload_n 0, 1) := by decide +kernel
theorem dX9_alike_31 : decode cX9_alike 31 = .ok (.iload_n 2, 1) := by decide +kernel
theorem dX9_alike_32 : decode cX9_alike 32 = .ok (.invokevirtual 94, 3) := by decide +kernel
theorem dX9_alike_35 : decode cX9_alike 35 = .ok (.iconst 0, 1) := by decide +kernel
theorem dX9_alike_36 : decode cX9_alike 36 = .ok (.istore_n 3, 1) := by decide +kernel
theorem dX9_alike_37 : decode cX9_alike 37 = .ok (.iconst 0, 1) := by decide +kernel
theorem dX9_alike_38 : decode cX9_alike 38 = .ok (.istore 4, 2) := by decide +kernel
theorem dX9_alike_40 : decode cX9_alike 40 = .ok (.iload 4, 2) := by decide +kernel
theorem dX9_alike_42 : decode cX9_alike 42 = .ok (.aload_n 0, 1) := by decide +kernel
theorem dX9_alike_43 : decode cX9_alike 43 = .ok (.getfield 7, 3) := by decide +kernel
theorem dX9_alike_46 : decode cX9_alike 46 = .ok (.iconst 0, 1) := by decide +kernel
theorem dX9_alike_47 : decode cX9_alike 47 = .ok (.iaload, 1) := by decide +kernel
theorem dX9_alike_48 : decode cX9_alike 48 = .ok (.if_icmp .ge 34, 3) := by decide +kernel
theorem dX9_alike_51 : decode cX9_alike 51 = .ok (.iload_n 3, 1) := by decide +kernel
theorem dX9_alike_52 : decode cX9_alike 52 = .ok (.aload_n 0, 1) := by decide +kernel
theorem dX9_alike_53 : decode cX9_alike 53 = .ok (.getfield 16, 3) := by decide +kernel
theorem dX9_alike_56 : decode cX9_alike 56 = .ok (.iload 4, 2) := by decide +kernel
theorem dX9_alike_58 : decode cX9_alike 58 = .ok (.iaload, 1) := by decide +kernel
theorem dX9_alike_59 : decode cX9_alike 59 = .ok (.aload_n 0, 1) := by decide +kernel
theorem dX9_alike_60 : decode cX9_alike 60 = .ok (.getfield 19, 3) := by decide +kernel
theorem dX9_alike_63 : decode cX9_alike 63 = .ok (.iload 4, 2) := by decide +kernel
theorem dX9_alike_65 : decode cX9_alike 65 = .ok (.iaload, 1) := by decide +kernel
theorem dX9_alike_66 : decode cX9_alike 66 = .ok (.if_icmp .ne 7, 3) := by decide +kernel
theorem dX9_alike_69 : decode cX9_alike 69 = .ok (.iconst 1, 1) := by decide +kernel
theorem dX9_alike_70 : decode cX9_alike 70 = .ok (.goto 4, 3) := by decide +kernel
theorem dX9_alike_73 : decode cX9_alike 73 = .ok (.iconst 0, 1) := by decide +kernel
theorem dX9_alike_74 : decode cX9_alike 74 = .ok (.iadd, 1) := by decide +kernel
theorem dX9_alike_75 : decode cX9_alike 75 = .ok (.istore_n 3, 1) := by decide +kernel
theorem dX9_alike_76 : decode cX9_alike 76 = .ok (.iinc 4 1, 3) := by decide +kernel
theorem dX9_alike_79 : decode cX9_alike 79 = .ok (.goto (-39), 3) := by decide +kernel
theorem dX9_alike_82 : decode cX9_alike 82 = .ok (.iload_n 3, 1) := by decide +kernel
theorem dX9_alike_83 : decode cX9_alike 83 = .ok (.ireturn, 1) := by decide +kernel
theorem dX9_wereBy_0 : decode cX9_wereBy 0 = .ok (.aload_n 0, 1) := by decide +kernel
theorem dX9_wereBy_1 : decode cX9_wereBy 1 = .ok (.iload_n 1, 1) := by decide +kernel
theorem dX9_wereBy_2 : decode cX9_wereBy 2 = .ok (.invokevirtual 94, 3) := by decide +kernel
theorem dX9_wereBy_5 : decode cX9_wereBy 5 = .ok (.aload_n 0, 1) := by decide +kernel
theorem dX9_wereBy_6 : decode cX9_wereBy 6 = .ok (.invokevirtual 270, 3) := by decide +kernel
theorem dX9_wereBy_9 : decode cX9_wereBy 9 = .ok (.aload_n 0, 1) := by decide +kernel
theorem dX9_wereBy_10 : decode cX9_wereBy 10 = .ok (.getfield 22, 3) := by decide +kernel
theorem dX9_wereBy_13 : decode cX9_wereBy 13 = .ok (.iload_n 2, 1) := by decide +kernel
theorem dX9_wereBy_14 : decode cX9_wereBy 14 = .ok (.iload_n 3, 1) := by decide +kernel
theorem dX9_wereBy_15 : decode cX9_wereBy 15 = .ok (.iconst 1, 1) := by decide +kernel
theorem dX9_wereBy_16 : decode cX9_wereBy 16 = .ok (.if_icmp .ne 7, 3) := by decide +kernel
theorem dX9_wereBy_19 : decode cX9_wereBy 19 = .ok (.iconst 1, 1) := by decide +kernel
theorem dX9_wereBy_20 : decode cX9_wereBy 20 = .ok (.goto 4, 3) := by decide +kernel
theorem dX9_wereBy_23 : decode cX9_wereBy 23 = .ok (.iconst 0, 1) := by decide +kernel
theorem dX9_wereBy_24 : decode cX9_wereBy 24 = .ok (.bastore, 1) := by decide +kernel
theorem dX9_wereBy_25 : decode cX9_wereBy 25 = .ok (.aload_n 0, 1) := by decide +kernel
theorem dX9_wereBy_26 : decode cX9_wereBy 26 = .ok (.aload_n 0, 1) := by decide +kernel
theorem dX9_wereBy_27 : decode cX9_wereBy 27 = .ok (.getfield 7, 3) := by decide +kernel
theorem dX9_wereBy_30 : decode cX9_wereBy 30 = .ok (.iconst 0, 1) := by decide +kernel
theorem dX9_wereBy_31 : decode cX9_wereBy 31 = .ok (.iaload, 1) := by decide +kernel
theorem dX9_wereBy_32 : decode cX9_wereBy 32 = .ok (.invokevirtual 71, 3) := by decide +kernel
theorem dX9_wereBy_35 : decode cX9_wereBy 35 = .ok (.iconst 0, 1) := by decide +kernel
theorem dX9_wereBy_36 : decode cX9_wereBy 36 = .ok (.istore 5, 2) := by decide +kernel
theorem dX9_wereBy_38 : decode cX9_wereBy 38 = .ok (.iconst 0, 1) := by decide +kernel
theorem dX9_wereBy_39 : decode cX9_wereBy 39 = .ok (.istore 6, 2) := by decide +kernel
theorem dX9_wereBy_41 : decode cX9_wereBy 41 = .ok (.iload 6, 2) := by decide +kernel
theorem dX9_wereBy_43 : decode cX9_wereBy 43 = .ok (.aload_n 0, 1) := by decide +kernel
theorem dX9_wereBy_44 : decode cX9_wereBy 44 = .ok (.getfield 7, 3) := by decide +kernel
theorem dX9_wereBy_47 : decode cX9_wereBy 47 = .ok (.iconst 0, 1) := by decide +kernel
theorem dX9_wereBy_48 : decode cX9_wereBy 48 = .ok (.iaload, 1) := by decide +kernel
theorem dX9_wereBy_49 : decode cX9_wereBy 49 = .ok (.if_icmp .ge 67, 3) := by decide +kernel
theorem dX9_wereBy_52 : decode cX9_wereBy 52 = .ok (.iload 5, 2) := by decide +kernel
theorem dX9_wereBy_54 : decode cX9_wereBy 54 = .ok (.aload_n 0, 1) := by decide +kernel
theorem dX9_wereBy_55 : decode cX9_wereBy 55 = .ok (.getfield 16, 3) := by decide +kernel
theorem dX9_wereBy_58 : decode cX9_wereBy 58 = .ok (.iload 6, 2) := by decide +kernel
theorem dX9_wereBy_60 : decode cX9_wereBy 60 = .ok (.iaload, 1) := by decide +kernel
theorem dX9_wereBy_61 : decode cX9_wereBy 61 = .ok (.aload_n 0, 1) := by decide +kernel
theorem dX9_wereBy_62 : decode cX9_wereBy 62 = .ok (.getfield 19, 3) := by decide +kernel
theorem dX9_wereBy_65 : decode cX9_wereBy 65 = .ok (.iload 6, 2) := by decide +kernel
theorem dX9_wereBy_67 : decode cX9_wereBy 67 = .ok (.iaload, 1) := by decide +kernel
theorem dX9_wereBy_68 : decode cX9_wereBy 68 = .ok (.if_icmp .eq 38, 3) := by decide +kernel
theorem dX9_wereBy_71 : decode cX9_wereBy 71 = .ok (.iload 4, 2) := by decide +kernel
theorem dX9_wereBy_73 : decode cX9_wereBy 73 = .ok (.ifCond .eq 29, 3) := by decide +kernel
theorem dX9_wereBy_76 : decode cX9_wereBy 76 = .ok (.aload_n 0, 1) := by decide +kernel
theorem dX9_wereBy_77 : decode cX9_wereBy 77 = .ok (.getfield 19, 3) := by decide +kernel
theorem dX9_wereBy_80 : decode cX9_wereBy 80 = .ok (.iload 6, 2) := by decide +kernel
theorem dX9_wereBy_82 : decode cX9_wereBy 82 = .ok (.iaload, 1) := by decide +kernel
theorem dX9_wereBy_83 : decode cX9_wereBy 83 = .ok (.iconst (-1), 1) := by decide +kernel
theorem dX9_wereBy_84 : decode cX9_wereBy 84 = .ok (.if_icmp .eq 22, 3) := by decide +kernel
theorem dX9_wereBy_87 : decode cX9_wereBy 87 = .ok (.aload_n 0, 1) := by decide +kernel
theorem dX9_wereBy_88 : decode cX9_wereBy 88 = .ok (.getfield 22, 3) := by decide +kernel
theorem dX9_wereBy_91 : decode cX9_wereBy 91 = .ok (.aload_n 0, 1) := by decide +kernel
theorem dX9_wereBy_92 : decode cX9_wereBy 92 = .ok (.getfield 19, 3) := by decide +kernel
theorem dX9_wereBy_95 : decode cX9_wereBy 95 = .ok (.iload 6, 2) := by decide +kernel
theorem dX9_wereBy_97 : decode cX9_wereBy 97 = .ok (.iaload, 1) := by decide +kernel
theorem dX9_wereBy_98 : decode cX9_wereBy 98 = .ok (.baload, 1) := by decide +kernel
theorem dX9_wereBy_99 : decode cX9_wereBy 99 = .ok (.ifCond .eq 7, 3) := by decide +kernel
theorem dX9_wereBy_102 : decode cX9_wereBy 102 = .ok (.iconst 1, 1) := by decide +kernel
theorem dX9_wereBy_103 : decode cX9_wereBy 103 = .ok (.goto 4, 3) := by decide +kernel
theorem dX9_wereBy_106 : decode cX9_wereBy 106 = .ok (.iconst 0, 1) := by decide +kernel
theorem dX9_wereBy_107 : decode cX9_wereBy 107 = .ok (.iadd, 1) := by decide +kernel
theorem dX9_wereBy_108 : decode cX9_wereBy 108 = .ok (.istore 5, 2) := by decide +kernel
theorem dX9_wereBy_110 : decode cX9_wereBy 110 = .ok (.iinc 6 1, 3) := by decide +kernel
theorem dX9_wereBy_113 : decode cX9_wereBy 113 = .ok (.goto (-72), 3) := by decide +kernel
theorem dX9_wereBy_116 : decode cX9_wereBy 116 = .ok (.iload 5, 2) := by decide +kernel
theorem dX9_wereBy_118 : decode cX9_wereBy 118 = .ok (.ireturn, 1) := by decide +kernel
theorem dX9_were_0 : decode cX9_were 0 = .ok (.aload_n 0, 1) := by decide +kernel
theorem dX9_were_1 : decode cX9_were 1 = .ok (.iconst 0, 1) := by decide +kernel
theorem dX9_were_2 : decode cX9_were 2 = .ok (.putfield 35, 3) := by decide +kernel
theorem dX9_were_5 : decode cX9_were 5 = .ok (.iload_n 1, 1) := by decide +kernel
theorem dX9_were_6 : decode cX9_were 6 = .ok (.invokestatic 125, 3) := by decide +kernel
theorem dX9_were_9 : decode cX9_were 9 = .ok (.ifCond .eq 32, 3) := by decide +kernel
theorem dX9_were_12 : decode cX9_were 12 = .ok (.aload_n 0, 1) := by decide +kernel
theorem dX9_were_13 : decode cX9_were 13 = .ok (.iload_n 2, 1) := by decide +kernel
theorem dX9_were_14 : decode cX9_were 14 = .ok (.invokevirtual 122, 3) := by decide +kernel
theorem dX9_were_17 : decode cX9_were 17 = .ok (.ifCond .eq 24, 3) := by decide +kernel
theorem dX9_were_20 : decode cX9_were 20 = .ok (.iload_n 3, 1) := by decide +kernel
theorem dX9_were_21 : decode cX9_were 21 = .ok (.iconst 0, 1) := by decide +kernel
theorem dX9_were_22 : decode cX9_were 22 = .ok (.iconst 2, 1) := by decide +kernel
theorem dX9_were_23 : decode cX9_were 23 = .ok (.invokestatic 39, 3) := by decide +kernel
theorem dX9_were_26 : decode cX9_were 26 = .ok (.ifCond .eq 15, 3) := by decide +kernel
theorem dX9_were_29 : decode cX9_were 29 = .ok (.aload_n 0, 1) := by decide +kernel
theorem dX9_were_30 : decode cX9_were 30 = .ok (.iload_n 1, 1) := by decide +kernel
theorem dX9_were_31 : decode cX9_were 31 = .ok (.iload_n 2, 1) := by decide +kernel
theorem dX9_were_32 : decode cX9_were 32 = .ok (.iload_n 3, 1) := by decide +kernel
theorem dX9_were_33 : decode cX9_were 33 = .ok (.iload 4, 2) := by decide +kernel
theorem dX9_were_35 : decode cX9_were 35 = .ok (.invokevirtual 273, 3) := by decide +kernel
theorem dX9_were_38 : decode cX9_were 38 = .ok (.goto 4, 3) := by decide +kernel
theorem dX9_were_41 : decode cX9_were 41 = .ok (.iconst (-1), 1) := by decide +kernel
theorem dX9_were_42 : decode cX9_were 42 = .ok (.ireturn, 1) := by decide +kernel
theorem dX9_roughest_0 : decode cX9_roughest 0 = .ok (.aload_n 0, 1) := by decide +kernel
theorem dX9_roughest_1 : decode cX9_roughest 1 = .ok (.iconst 0, 1) := by decide +kernel
theorem dX9_roughest_2 : decode cX9_roughest 2 = .ok (.putfield 35, 3) := by decide +kernel
theorem dX9_roughest_5 : decode cX9_roughest 5 = .ok (.iconst (-1), 1) := by decide +kernel
theorem dX9_roughest_6 : decode cX9_roughest 6 = .ok (.istore_n 2, 1) := by decide +kernel
theorem dX9_roughest_7 : decode cX9_roughest 7 = .ok (.iconst 0, 1) := by decide +kernel
theorem dX9_roughest_8 : decode cX9_roughest 8 = .ok (.istore_n 3, 1) := by decide +kernel
theorem dX9_roughest_9 : decode cX9_roughest 9 = .ok (.iconst 0, 1) := by decide +kernel
theorem dX9_roughest_10 : decode cX9_roughest 10 = .ok (.istore 4, 2) := by decide +kernel
theorem dX9_roughest_12 : decode cX9_roughest 12 = .ok (.iload 4, 2) := by decide +kernel
theorem dX9_roughest_14 : decode cX9_roughest 14 = .ok (.aload_n 0, 1) := by decide +kernel
theorem dX9_roughest_15 : decode cX9_roughest 15 = .ok (.getfield 7, 3) := by decide +kernel
theorem dX9_roughest_18 : decode cX9_roughest 18 = .ok (.iconst 1, 1) := by decide +kernel
theorem dX9_roughest_19 : decode cX9_roughest 19 = .ok (.iaload, 1) := by decide +kernel
theorem dX9_roughest_20 : decode cX9_roughest 20 = .ok (.if_icmp .ge 58, 3) := by decide +kernel
theorem dX9_roughest_23 : decode cX9_roughest 23 = .ok (.iload_n 1, 1) := by decide +kernel
theorem dX9_roughest_24 : decode cX9_roughest 24 = .ok (.invokestatic 125, 3) := by decide +kernel
theorem dX9_roughest_27 : decode cX9_roughest 27 = .ok (.ifCond .eq 51, 3) := by decide +kernel
theorem dX9_roughest_30 : decode cX9_roughest 30 = .ok (.aload_n 0, 1) := by decide +kernel
theorem dX9_roughest_31 : decode cX9_roughest 31 = .ok (.iload_n 1, 1) := by decide +kernel
theorem dX9_roughest_32 : decode cX9_roughest 32 = .ok (.iload 4, 2) := by decide +kernel
theorem dX9_roughest_34 : decode cX9_roughest 34 = .ok (.invokevirtual 50, 3) := by decide +kernel
theorem dX9_roughest_37 : decode cX9_roughest 37 = .ok (.iconst 1, 1) := by decide +kernel
theorem dX9_roughest_38 : decode cX9_roughest 38 = .ok (.if_icmp .eq 6, 3) := by decide +kernel
theorem dX9_roughest_41 : decode cX9_roughest 41 = .ok (.goto 31, 3) := by decide +kernel
theorem dX9_roughest_44 : decode cX9_roughest 44 = .ok (.aload_n 0, 1) := by decide +kernel
theorem dX9_roughest_45 : decode cX9_roughest 45 = .ok (.iload_n 1, 1) := by decide +kernel
theorem dX9_roughest_46 : decode cX9_roughest 46 = .ok (.iload 4, 2) := by decide +kernel
theorem dX9_roughest_48 : decode cX9_roughest 48 = .ok (.iconst 0, 1) := by decide +kernel
theorem dX9_roughest_49 : decode cX9_roughest 49 = .ok (.iconst 1, 1) := by decide +kernel
theorem dX9_roughest_50 : decode cX9_roughest 50 = .ok (.invokevirtual 273, 3) := by decide +kernel
theorem dX9_roughest_53 : decode cX9_roughest 53 = .ok (.istore 5, 2) := by decide +kernel
theorem dX9_roughest_55 : decode cX9_roughest 55 = .ok (.iload_n 2, 1) := by decide +kernel
theorem dX9_roughest_56 : decode cX9_roughest 56 = .ok (.iconst (-1), 1) := by decide +kernel
theorem dX9_roughest_57 : decode cX9_roughest 57 = .ok (.if_icmp .eq 9, 3) := by decide +kernel
theorem dX9_roughest_60 : decode cX9_roughest 60 = .ok (.iload 5, 2) := by decide +kernel
theorem dX9_roughest_62 : decode cX9_roughest 62 = .ok (.iload_n 3, 1) := by decide +kernel
theorem dX9_roughest_63 : decode cX9_roughest 63 = .ok (.if_icmp .le 9, 3) := by decide +kernel
theorem dX9_roughest_66 : decode cX9_roughest 66 = .ok (.iload 4, 2) := by decide +kernel
theorem dX9_roughest_68 : decode cX9_roughest 68 = .ok (.istore_n 2, 1) := by decide +kernel
theorem dX9_roughest_69 : decode cX9_roughest 69 = .ok (.iload 5, 2) := by decide +kernel
theorem dX9_roughest_71 : decode cX9_roughest 71 = .ok (.istore_n 3, 1) := by decide +kernel
theorem dX9_roughest_72 : decode cX9_roughest 72 = .ok (.iinc 4 1, 3) := by decide +kernel
theorem dX9_roughest_75 : decode cX9_roughest 75 = .ok (.goto (-63), 3) := by decide +kernel
theorem dX9_roughest_78 : decode cX9_roughest 78 = .ok (.iload_n 2, 1) := by decide +kernel
theorem dX9_roughest_79 : decode cX9_roughest 79 = .ok (.ireturn, 1) := by decide +kernel
theorem dX9_flow_0 : decode cX9_flow 0 = .ok (.aload_n 0, 1) := by decide +kernel
theorem dX9_flow_1 : decode cX9_flow 1 = .ok (.iconst 0, 1) := by decide +kernel
theorem dX9_flow_2 : decode cX9_flow 2 = .ok (.putfield 35, 3) := by decide +kernel
theorem dX9_flow_5 : decode cX9_flow 5 = .ok (.iload_n 1, 1) := by decide +kernel
theorem dX9_flow_6 : decode cX9_flow 6 = .ok (.invokestatic 142, 3) := by decide +kernel
theorem dX9_flow_9 : decode cX9_flow 9 = .ok (.ifCond .eq 11, 3) := by decide +kernel
theorem dX9_flow_12 : decode cX9_flow 12 = .ok (.aload_n 0, 1) := by decide +kernel
theorem dX9_flow_13 : decode cX9_flow 13 = .ok (.iload_n 1, 1) := by decide +kernel
theorem dX9_flow_14 : decode cX9_flow 14 = .ok (.invokevirtual 97, 3) := by decide +kernel
theorem dX9_flow_17 : decode cX9_flow 17 = .ok (.goto 4, 3) := by decide +kernel
theorem dX9_flow_20 : decode cX9_flow 20 = .ok (.iconst (-1), 1) := by decide +kernel
theorem dX9_flow_21 : decode cX9_flow 21 = .ok (.ireturn, 1) := by decide +kernel
theorem dX9_remembers_0 : decode cX9_remembers 0 = .ok (.aload_n 0, 1) := by decide +kernel
theorem dX9_remembers_1 : decode cX9_remembers 1 = .ok (.iconst 0, 1) := by decide +kernel
theorem dX9_remembers_2 : decode cX9_remembers 2 = .ok (.putfield 35, 3) := by decide +kernel
theorem dX9_remembers_5 : decode cX9_remembers 5 = .ok (.iload_n 1, 1) := by decide +kernel
theorem dX9_remembers_6 : decode cX9_remembers 6 = .ok (.invokestatic 125, 3) := by decide +kernel
theorem dX9_remembers_9 : decode cX9_remembers 9 = .ok (.ifCond .eq 19, 3) := by decide +kernel
theorem dX9_remembers_12 : decode cX9_remembers 12 = .ok (.iload_n 2, 1) := by decide +kernel
theorem dX9_remembers_13 : decode cX9_remembers 13 = .ok (.invokestatic 142, 3) := by decide +kernel
theorem dX9_remembers_16 : decode cX9_remembers 16 = .ok (.ifCond .eq 12, 3) := by decide +kernel
theorem dX9_remembers_19 : decode cX9_remembers 19 = .ok (.iload_n 3, 1) := by decide +kernel
theorem dX9_remembers_20 : decode cX9_remembers 20 = .ok (.iconst 0, 1) := by decide +kernel
theorem dX9_remembers_21 : decode cX9_remembers 21 = .ok (.iconst 1, 1) := by decide +kernel
theorem dX9_remembers_22 : decode cX9_remembers 22 = .ok (.invokestatic 39, 3) := by decide +kernel
theorem dX9_remembers_25 : decode cX9_remembers 25 = .ok (.ifCond .ne 5, 3) := by decide +kernel
theorem dX9_remembers_28 : decode cX9_remembers 28 = .ok (.iconst (-1), 1) := by decide +kernel
theorem dX9_remembers_29 : decode cX9_remembers 29 = .ok (.ireturn, 1) := by decide +kernel
theorem dX9_remembers_30 : decode cX9_remembers 30 = .ok (.aload_n 0, 1) := by decide +kernel
theorem dX9_remembers_31 : decode cX9_remembers 31 = .ok (.iload_n 1, 1) := by decide +kernel
theorem dX9_remembers_32 : decode cX9_remembers 32 = .ok (.iload_n 2, 1) := by decide +kernel
theorem dX9_remembers_33 : decode cX9_remembers 33 = .ok (.invokevirtual 91, 3) := by decide +kernel
theorem dX9_remembers_36 : decode cX9_remembers 36 = .ok (.istore 4, 2) := by decide +kernel
theorem dX9_remembers_38 : decode cX9_remembers 38 = .ok (.iload 4, 2) := by decide +kernel
theorem dX9_remembers_40 : decode cX9_remembers 40 = .ok (.iconst (-1), 1) := by decide +kernel
theorem dX9_remembers_41 : decode cX9_remembers 41 = .ok (.if_icmp .ne 7, 3) := by decide +kernel
theorem dX9_remembers_44 : decode cX9_remembers 44 = .ok (.iconst (-1), 1) := by decide +kernel
theorem dX9_remembers_45 : decode cX9_remembers 45 = .ok (.goto 24, 3) := by decide +kernel
theorem dX9_remembers_48 : decode cX9_remembers 48 = .ok (.iload_n 3, 1) := by decide +kernel
theorem dX9_remembers_49 : decode cX9_remembers 49 = .ok (.ifCond .ne 13, 3) := by decide +kernel
theorem dX9_remembers_52 : decode cX9_remembers 52 = .ok (.aload_n 0, 1) := by decide +kernel
theorem dX9_remembers_53 : decode cX9_remembers 53 = .ok (.iload_n 1, 1) := by decide +kernel
theorem dX9_remembers_54 : decode cX9_remembers 54 = .ok (.iload 4, 2) := by decide +kernel
theorem dX9_remembers_56 : decode cX9_remembers 56 = .ok (.invokevirtual 77, 3) := by decide +kernel
theorem dX9_remembers_59 : decode cX9_remembers 59 = .ok (.goto 10, 3) := by decide +kernel
theorem dX9_remembers_62 : decode cX9_remembers 62 = .ok (.aload_n 0, 1) := by decide +kernel
theorem dX9_remembers_63 : decode cX9_remembers 63 = .ok (.iload_n 1, 1) := by decide +kernel
theorem dX9_remembers_64 : decode cX9_remembers 64 = .ok (.iload 4, 2) := by decide +kernel
theorem dX9_remembers_66 : decode cX9_remembers 66 = .ok (.invokevirtual 80, 3) := by decide +kernel
theorem dX9_remembers_69 : decode cX9_remembers 69 = .ok (.ireturn, 1) := by decide +kernel
theorem dX9_flows_0 : decode cX9_flows 0 = .ok (.aload_n 0, 1) := by decide +kernel
theorem dX9_flows_1 : decode cX9_flows 1 = .ok (.iconst 0, 1) := by decide +kernel
theorem dX9_flows_2 : decode cX9_flows 2 = .ok (.putfield 35, 3) := by decide +kernel
theorem dX9_flows_5 : decode cX9_flows 5 = .ok (.iload_n 1, 1) := by decide +kernel
theorem dX9_flows_6 : decode cX9_flows 6 = .ok (.invokestatic 125, 3) := by decide +kernel
theorem dX9_flows_9 : decode cX9_flows 9 = .ok (.ifCond .eq 16, 3) := by decide +kernel
theorem dX9_flows_12 : decode cX9_flows 12 = .ok (.iload_n 2, 1) := by decide +kernel
theorem dX9_flows_13 : decode cX9_flows 13 = .ok (.iconst (-1), 1) := by decide +kernel
theorem dX9_flows_14 : decode cX9_flows 14 = .ok (.if_icmp .eq 13, 3) := by decide +kernel
theorem dX9_flows_17 : decode cX9_flows 17 = .ok (.aload_n 0, 1) := by decide +kernel
theorem dX9_flows_18 : decode cX9_flows 18 = .ok (.iload_n 2, 1) := by decide +kernel
theorem dX9_flows_19 : decode cX9_flows 19 = .ok (.invokevirtual 122, 3) := by decide +kernel
theorem dX9_flows_22 : decode cX9_flows 22 = .ok (.ifCond .ne 5, 3) := by decide +kernel
theorem dX9_flows_25 : decode cX9_flows 25 = .ok (.iconst (-1), 1) := by decide +kernel
theorem dX9_flows_26 : decode cX9_flows 26 = .ok (.ireturn, 1) := by decide +kernel
theorem dX9_flows_27 : decode cX9_flows 27 = .ok (.iconst 0, 1) := by decide +kernel
theorem dX9_flows_28 : decode cX9_flows 28 = .ok (.istore_n 3, 1) := by decide +kernel
theorem dX9_flows_29 : decode cX9_flows 29 = .ok (.iconst 0, 1) := by decide +kernel
theorem dX9_flows_30 : decode cX9_flows 30 = .ok (.istore 4, 2) := by decide +kernel
theorem dX9_flows_32 : decode cX9_flows 32 = .ok (.iload 4, 2) := by decide +kernel
theorem dX9_flows_34 : decode cX9_flows 34 = .ok (.aload_n 0, 1) := by decide +kernel
theorem dX9_flows_35 : decode cX9_flows 35 = .ok (.getfield 7, 3) := by decide +kernel
theorem dX9_flows_38 : decode cX9_flows 38 = .ok (.bipush 53, 2) := by decide +kernel
theorem dX9_flows_40 : decode cX9_flows 40 = .ok (.iload_n 1, 1) := by decide +kernel
theorem dX9_flows_41 : decode cX9_flows 41 = .ok (.iadd, 1) := by decide +kernel
theorem dX9_flows_42 : decode cX9_flows 42 = .ok (.iaload, 1) := by decide +kernel
theorem dX9_flows_43 : decode cX9_flows 43 = .ok (.if_icmp .ge 33, 3) := by decide +kernel
theorem dX9_flows_46 : decode cX9_flows 46 = .ok (.iload_n 3, 1) := by decide +kernel
theorem dX9_flows_47 : decode cX9_flows 47 = .ok (.iload_n 2, 1) := by decide +kernel
theorem dX9_flows_48 : decode cX9_flows 48 = .ok (.iconst (-1), 1) := by decide +kernel
theorem dX9_flows_49 : decode cX9_flows 49 = .ok (.if_icmp .eq 14, 3) := by decide +kernel
theorem dX9_flows_52 : decode cX9_flows 52 = .ok (.aload_n 0, 1) := by decide +kernel
theorem dX9_flows_53 : decode cX9_flows 53 = .ok (.iload_n 1, 1) := by decide +kernel
theorem dX9_flows_54 : decode cX9_flows 54 = .ok (.iload 4, 2) := by decide +kernel
theorem dX9_flows_56 : decode cX9_flows 56 = .ok (.invokevirtual 77, 3) := by decide +kernel
theorem dX9_flows_59 : decode cX9_flows 59 = .ok (.iload_n 2, 1) := by decide +kernel
theorem dX9_flows_60 : decode cX9_flows 60 = .ok (.if_icmp .ne 7, 3) := by decide +kernel
theorem dX9_flows_63 : decode cX9_flows 63 = .ok (.iconst 1, 1) := by decide +kernel
theorem dX9_flows_64 : decode cX9_flows 64 = .ok (.goto 4, 3) := by decide +kernel
theorem dX9_flows_67 : decode cX9_flows 67 = .ok (.iconst 0, 1) := by decide +kernel
theorem dX9_flows_68 : decode cX9_flows 68 = .ok (.iadd, 1) := by decide +kernel
theorem dX9_flows_69 : decode cX9_flows 69 = .ok (.istore_n 3, 1) := by decide +kernel
theorem dX9_flows_70 : decode cX9_flows 70 = .ok (.iinc 4 1, 3) := by decide +kernel
end
section
theorem dX9_flows_73 : decode cX9_flows 73 = .ok (.goto (-41), 3) := by decide +kernel
theorem dX9_flows_76 : decode cX9_flows 76 = .ok (.iload_n 3, 1) := by decide +kernel
theorem dX9_flows_77 : decode cX9_flows 77 = .ok (.ireturn, 1) := by decide +kernel
theorem dX9_flowAt_0 : decode cX9_flowAt 0 = .ok (.aload_n 0, 1) := by decide +kernel
theorem dX9_flowAt_1 : decode cX9_flowAt 1 = .ok (.iconst 0, 1) := by decide +kernel
theorem dX9_flowAt_2 : decode cX9_flowAt 2 = .ok (.putfield 35, 3) := by decide +kernel
theorem dX9_flowAt_5 : decode cX9_flowAt 5 = .ok (.iload_n 1, 1) := by decide +kernel
theorem dX9_flowAt_6 : decode cX9_flowAt 6 = .ok (.invokestatic 125, 3) := by decide +kernel
theorem dX9_flowAt_9 : decode cX9_flowAt 9 = .ok (.ifCond .eq 22, 3) := by decide +kernel
theorem dX9_flowAt_12 : decode cX9_flowAt 12 = .ok (.iload_n 2, 1) := by decide +kernel
theorem dX9_flowAt_13 : decode cX9_flowAt 13 = .ok (.iconst 0, 1) := by decide +kernel
theorem dX9_flowAt_14 : decode cX9_flowAt 14 = .ok (.aload_n 0, 1) := by decide +kernel
theorem dX9_flowAt_15 : decode cX9_flowAt 15 = .ok (.getfield 7, 3) := by decide +kernel
theorem dX9_flowAt_18 : decode cX9_flowAt 18 = .ok (.bipush 53, 2) := by decide +kernel
theorem dX9_flowAt_20 : decode cX9_flowAt 20 = .ok (.iload_n 1, 1) := by decide +kernel
theorem dX9_flowAt_21 : decode cX9_flowAt 21 = .ok (.iadd, 1) := by decide +kernel
theorem dX9_flowAt_22 : decode cX9_flowAt 22 = .ok (.iaload, 1) := by decide +kernel
theorem dX9_flowAt_23 : decode cX9_flowAt 23 = .ok (.iconst 1, 1) := by decide +kernel
theorem dX9_flowAt_24 : decode cX9_flowAt 24 = .ok (.isub, 1) := by decide +kernel
theorem dX9_flowAt_25 : decode cX9_flowAt 25 = .ok (.invokestatic 39, 3) := by decide +kernel
theorem dX9_flowAt_28 : decode cX9_flowAt 28 = .ok (.ifCond .ne 5, 3) := by decide +kernel
theorem dX9_flowAt_31 : decode cX9_flowAt 31 = .ok (.iconst (-1), 1) := by decide +kernel
theorem dX9_flowAt_32 : decode cX9_flowAt 32 = .ok (.ireturn, 1) := by decide +kernel
theorem dX9_flowAt_33 : decode cX9_flowAt 33 = .ok (.iconst (-1), 1) := by decide +kernel
theorem dX9_flowAt_34 : decode cX9_flowAt 34 = .ok (.istore_n 3, 1) := by decide +kernel
theorem dX9_flowAt_35 : decode cX9_flowAt 35 = .ok (.iconst 0, 1) := by decide +kernel
theorem dX9_flowAt_36 : decode cX9_flowAt 36 = .ok (.istore 4, 2) := by decide +kernel
theorem dX9_flowAt_38 : decode cX9_flowAt 38 = .ok (.iload 4, 2) := by decide +kernel
theorem dX9_flowAt_40 : decode cX9_flowAt 40 = .ok (.iload_n 2, 1) := by decide +kernel
theorem dX9_flowAt_41 : decode cX9_flowAt 41 = .ok (.if_icmp .gt 77, 3) := by decide +kernel
theorem dX9_flowAt_44 : decode cX9_flowAt 44 = .ok (.sipush 10000, 3) := by decide +kernel
theorem dX9_flowAt_47 : decode cX9_flowAt 47 = .ok (.istore 5, 2) := by decide +kernel
theorem dX9_flowAt_49 : decode cX9_flowAt 49 = .ok (.iconst 0, 1) := by decide +kernel
theorem dX9_flowAt_50 : decode cX9_flowAt 50 = .ok (.istore 6, 2) := by decide +kernel
theorem dX9_flowAt_52 : decode cX9_flowAt 52 = .ok (.iload 6, 2) := by decide +kernel
theorem dX9_flowAt_54 : decode cX9_flowAt 54 = .ok (.aload_n 0, 1) := by decide +kernel
theorem dX9_flowAt_55 : decode cX9_flowAt 55 = .ok (.getfield 7, 3) := by decide +kernel
theorem dX9_flowAt_58 : decode cX9_flowAt 58 = .ok (.bipush 53, 2) := by decide +kernel
theorem dX9_flowAt_60 : decode cX9_flowAt 60 = .ok (.iload_n 1, 1) := by decide +kernel
theorem dX9_flowAt_61 : decode cX9_flowAt 61 = .ok (.iadd, 1) := by decide +kernel
theorem dX9_flowAt_62 : decode cX9_flowAt 62 = .ok (.iaload, 1) := by decide +kernel
theorem dX9_flowAt_63 : decode cX9_flowAt 63 = .ok (.if_icmp .ge 46, 3) := by decide +kernel
theorem dX9_flowAt_66 : decode cX9_flowAt 66 = .ok (.aload_n 0, 1) := by decide +kernel
theorem dX9_flowAt_67 : decode cX9_flowAt 67 = .ok (.iload_n 1, 1) := by decide +kernel
theorem dX9_flowAt_68 : decode cX9_flowAt 68 = .ok (.iload 6, 2) := by decide +kernel
theorem dX9_flowAt_70 : decode cX9_flowAt 70 = .ok (.invokevirtual 74, 3) := by decide +kernel
theorem dX9_flowAt_73 : decode cX9_flowAt 73 = .ok (.iload_n 3, 1) := by decide +kernel
theorem dX9_flowAt_74 : decode cX9_flowAt 74 = .ok (.if_icmp .le 25, 3) := by decide +kernel
theorem dX9_flowAt_77 : decode cX9_flowAt 77 = .ok (.aload_n 0, 1) := by decide +kernel
theorem dX9_flowAt_78 : decode cX9_flowAt 78 = .ok (.iload_n 1, 1) := by decide +kernel
theorem dX9_flowAt_79 : decode cX9_flowAt 79 = .ok (.iload 6, 2) := by decide +kernel
theorem dX9_flowAt_81 : decode cX9_flowAt 81 = .ok (.invokevirtual 74, 3) := by decide +kernel
theorem dX9_flowAt_84 : decode cX9_flowAt 84 = .ok (.iload 5, 2) := by decide +kernel
theorem dX9_flowAt_86 : decode cX9_flowAt 86 = .ok (.if_icmp .ge 13, 3) := by decide +kernel
theorem dX9_flowAt_89 : decode cX9_flowAt 89 = .ok (.aload_n 0, 1) := by decide +kernel
theorem dX9_flowAt_90 : decode cX9_flowAt 90 = .ok (.iload_n 1, 1) := by decide +kernel
theorem dX9_flowAt_91 : decode cX9_flowAt 91 = .ok (.iload 6, 2) := by decide +kernel
theorem dX9_flowAt_93 : decode cX9_flowAt 93 = .ok (.invokevirtual 74, 3) := by decide +kernel
theorem dX9_flowAt_96 : decode cX9_flowAt 96 = .ok (.goto 5, 3) := by decide +kernel
theorem dX9_flowAt_99 : decode cX9_flowAt 99 = .ok (.iload 5, 2) := by decide +kernel
theorem dX9_flowAt_101 : decode cX9_flowAt 101 = .ok (.istore 5, 2) := by decide +kernel
theorem dX9_flowAt_103 : decode cX9_flowAt 103 = .ok (.iinc 6 1, 3) := by decide +kernel
theorem dX9_flowAt_106 : decode cX9_flowAt 106 = .ok (.goto (-54), 3) := by decide +kernel
theorem dX9_flowAt_109 : decode cX9_flowAt 109 = .ok (.iload 5, 2) := by decide +kernel
theorem dX9_flowAt_111 : decode cX9_flowAt 111 = .ok (.istore_n 3, 1) := by decide +kernel
theorem dX9_flowAt_112 : decode cX9_flowAt 112 = .ok (.iinc 4 1, 3) := by decide +kernel
theorem dX9_flowAt_115 : decode cX9_flowAt 115 = .ok (.goto (-77), 3) := by decide +kernel
theorem dX9_flowAt_118 : decode cX9_flowAt 118 = .ok (.iload_n 3, 1) := by decide +kernel
theorem dX9_flowAt_119 : decode cX9_flowAt 119 = .ok (.ireturn, 1) := by decide +kernel
theorem dX9_astray_0 : decode cX9_astray 0 = .ok (.aload_n 0, 1) := by decide +kernel
theorem dX9_astray_1 : decode cX9_astray 1 = .ok (.iconst 0, 1) := by decide +kernel
theorem dX9_astray_2 : decode cX9_astray 2 = .ok (.putfield 35, 3) := by decide +kernel
theorem dX9_astray_5 : decode cX9_astray 5 = .ok (.iload_n 1, 1) := by decide +kernel
theorem dX9_astray_6 : decode cX9_astray 6 = .ok (.invokestatic 125, 3) := by decide +kernel
theorem dX9_astray_9 : decode cX9_astray 9 = .ok (.ifCond .eq 10, 3) := by decide +kernel
theorem dX9_astray_12 : decode cX9_astray 12 = .ok (.iload_n 2, 1) := by decide +kernel
theorem dX9_astray_13 : decode cX9_astray 13 = .ok (.invokestatic 125, 3) := by decide +kernel
theorem dX9_astray_16 : decode cX9_astray 16 = .ok (.ifCond .ne 5, 3) := by decide +kernel
theorem dX9_astray_19 : decode cX9_astray 19 = .ok (.iconst (-1), 1) := by decide +kernel
theorem dX9_astray_20 : decode cX9_astray 20 = .ok (.ireturn, 1) := by decide +kernel
theorem dX9_astray_21 : decode cX9_astray 21 = .ok (.iconst 0, 1) := by decide +kernel
theorem dX9_astray_22 : decode cX9_astray 22 = .ok (.istore_n 3, 1) := by decide +kernel
theorem dX9_astray_23 : decode cX9_astray 23 = .ok (.iconst 0, 1) := by decide +kernel
theorem dX9_astray_24 : decode cX9_astray 24 = .ok (.istore 4, 2) := by decide +kernel
theorem dX9_astray_26 : decode cX9_astray 26 = .ok (.iload 4, 2) := by decide +kernel
theorem dX9_astray_28 : decode cX9_astray 28 = .ok (.aload_n 0, 1) := by decide +kernel
theorem dX9_astray_29 : decode cX9_astray 29 = .ok (.getfield 7, 3) := by decide +kernel
theorem dX9_astray_32 : decode cX9_astray 32 = .ok (.bipush 53, 2) := by decide +kernel
theorem dX9_astray_34 : decode cX9_astray 34 = .ok (.iload_n 1, 1) := by decide +kernel
theorem dX9_astray_35 : decode cX9_astray 35 = .ok (.iadd, 1) := by decide +kernel
theorem dX9_astray_36 : decode cX9_astray 36 = .ok (.iaload, 1) := by decide +kernel
theorem dX9_astray_37 : decode cX9_astray 37 = .ok (.if_icmp .ge 39, 3) := by decide +kernel
theorem dX9_astray_40 : decode cX9_astray 40 = .ok (.iload_n 3, 1) := by decide +kernel
theorem dX9_astray_41 : decode cX9_astray 41 = .ok (.aload_n 0, 1) := by decide +kernel
theorem dX9_astray_42 : decode cX9_astray 42 = .ok (.iload_n 2, 1) := by decide +kernel
theorem dX9_astray_43 : decode cX9_astray 43 = .ok (.aload_n 0, 1) := by decide +kernel
theorem dX9_astray_44 : decode cX9_astray 44 = .ok (.iload_n 1, 1) := by decide +kernel
theorem dX9_astray_45 : decode cX9_astray 45 = .ok (.iload 4, 2) := by decide +kernel
theorem dX9_astray_47 : decode cX9_astray 47 = .ok (.invokevirtual 74, 3) := by decide +kernel
theorem dX9_astray_50 : decode cX9_astray 50 = .ok (.invokevirtual 100, 3) := by decide +kernel
theorem dX9_astray_53 : decode cX9_astray 53 = .ok (.aload_n 0, 1) := by decide +kernel
theorem dX9_astray_54 : decode cX9_astray 54 = .ok (.iload_n 1, 1) := by decide +kernel
theorem dX9_astray_55 : decode cX9_astray 55 = .ok (.iload 4, 2) := by decide +kernel
theorem dX9_astray_57 : decode cX9_astray 57 = .ok (.invokevirtual 77, 3) := by decide +kernel
theorem dX9_astray_60 : decode cX9_astray 60 = .ok (.if_icmp .ne 7, 3) := by decide +kernel
theorem dX9_astray_63 : decode cX9_astray 63 = .ok (.iconst 0, 1) := by decide +kernel
theorem dX9_astray_64 : decode cX9_astray 64 = .ok (.goto 4, 3) := by decide +kernel
theorem dX9_astray_67 : decode cX9_astray 67 = .ok (.iconst 1, 1) := by decide +kernel
theorem dX9_astray_68 : decode cX9_astray 68 = .ok (.iadd, 1) := by decide +kernel
theorem dX9_astray_69 : decode cX9_astray 69 = .ok (.istore_n 3, 1) := by decide +kernel
theorem dX9_astray_70 : decode cX9_astray 70 = .ok (.iinc 4 1, 3) := by decide +kernel
theorem dX9_astray_73 : decode cX9_astray 73 = .ok (.goto (-47), 3) := by decide +kernel
theorem dX9_astray_76 : decode cX9_astray 76 = .ok (.iload_n 3, 1) := by decide +kernel
theorem dX9_astray_77 : decode cX9_astray 77 = .ok (.ireturn, 1) := by decide +kernel
theorem dX9_idle_0 : decode cX9_idle 0 = .ok (.aload_n 0, 1) := by decide +kernel
theorem dX9_idle_1 : decode cX9_idle 1 = .ok (.iconst 0, 1) := by decide +kernel
theorem dX9_idle_2 : decode cX9_idle 2 = .ok (.putfield 35, 3) := by decide +kernel
theorem dX9_idle_5 : decode cX9_idle 5 = .ok (.iload_n 1, 1) := by decide +kernel
theorem dX9_idle_6 : decode cX9_idle 6 = .ok (.invokestatic 125, 3) := by decide +kernel
theorem dX9_idle_9 : decode cX9_idle 9 = .ok (.ifCond .eq 11, 3) := by decide +kernel
theorem dX9_idle_12 : decode cX9_idle 12 = .ok (.aload_n 0, 1) := by decide +kernel
theorem dX9_idle_13 : decode cX9_idle 13 = .ok (.iload_n 2, 1) := by decide +kernel
theorem dX9_idle_14 : decode cX9_idle 14 = .ok (.invokevirtual 122, 3) := by decide +kernel
theorem dX9_idle_17 : decode cX9_idle 17 = .ok (.ifCond .ne 5, 3) := by decide +kernel
theorem dX9_idle_20 : decode cX9_idle 20 = .ok (.iconst (-1), 1) := by decide +kernel
theorem dX9_idle_21 : decode cX9_idle 21 = .ok (.ireturn, 1) := by decide +kernel
theorem dX9_idle_22 : decode cX9_idle 22 = .ok (.aload_n 0, 1) := by decide +kernel
theorem dX9_idle_23 : decode cX9_idle 23 = .ok (.getfield 7, 3) := by decide +kernel
theorem dX9_idle_26 : decode cX9_idle 26 = .ok (.iconst 2, 1) := by decide +kernel
theorem dX9_idle_27 : decode cX9_idle 27 = .ok (.iaload, 1) := by decide +kernel
theorem dX9_idle_28 : decode cX9_idle 28 = .ok (.istore_n 3, 1) := by decide +kernel
theorem dX9_idle_29 : decode cX9_idle 29 = .ok (.iconst 0, 1) := by decide +kernel
theorem dX9_idle_30 : decode cX9_idle 30 = .ok (.istore 4, 2) := by decide +kernel
theorem dX9_idle_32 : decode cX9_idle 32 = .ok (.iload 4, 2) := by decide +kernel
theorem dX9_idle_34 : decode cX9_idle 34 = .ok (.aload_n 0, 1) := by decide +kernel
theorem dX9_idle_35 : decode cX9_idle 35 = .ok (.getfield 7, 3) := by decide +kernel
theorem dX9_idle_38 : decode cX9_idle 38 = .ok (.bipush 53, 2) := by decide +kernel
theorem dX9_idle_40 : decode cX9_idle 40 = .ok (.iload_n 1, 1) := by decide +kernel
theorem dX9_idle_41 : decode cX9_idle 41 = .ok (.iadd, 1) := by decide +kernel
theorem dX9_idle_42 : decode cX9_idle 42 = .ok (.iaload, 1) := by decide +kernel
theorem dX9_idle_43 : decode cX9_idle 43 = .ok (.if_icmp .ge 57, 3) := by decide +kernel
theorem dX9_idle_46 : decode cX9_idle 46 = .ok (.aload_n 0, 1) := by decide +kernel
theorem dX9_idle_47 : decode cX9_idle 47 = .ok (.iload_n 1, 1) := by decide +kernel
theorem dX9_idle_48 : decode cX9_idle 48 = .ok (.iload 4, 2) := by decide +kernel
theorem dX9_idle_50 : decode cX9_idle 50 = .ok (.invokevirtual 77, 3) := by decide +kernel
theorem dX9_idle_53 : decode cX9_idle 53 = .ok (.iload_n 2, 1) := by decide +kernel
theorem dX9_idle_54 : decode cX9_idle 54 = .ok (.if_icmp .ne 40, 3) := by decide +kernel
theorem dX9_idle_57 : decode cX9_idle 57 = .ok (.aload_n 0, 1) := by decide +kernel
theorem dX9_idle_58 : decode cX9_idle 58 = .ok (.iload_n 1, 1) := by decide +kernel
theorem dX9_idle_59 : decode cX9_idle 59 = .ok (.iload 4, 2) := by decide +kernel
theorem dX9_idle_61 : decode cX9_idle 61 = .ok (.invokevirtual 80, 3) := by decide +kernel
theorem dX9_idle_64 : decode cX9_idle 64 = .ok (.aload_n 0, 1) := by decide +kernel
theorem dX9_idle_65 : decode cX9_idle 65 = .ok (.getfield 7, 3) := by decide +kernel
theorem dX9_idle_68 : decode cX9_idle 68 = .ok (.iconst 4, 1) := by decide +kernel
theorem dX9_idle_69 : decode cX9_idle 69 = .ok (.iaload, 1) := by decide +kernel
theorem dX9_idle_70 : decode cX9_idle 70 = .ok (.iadd, 1) := by decide +kernel
theorem dX9_idle_71 : decode cX9_idle 71 = .ok (.iconst 1, 1) := by decide +kernel
theorem dX9_idle_72 : decode cX9_idle 72 = .ok (.iadd, 1) := by decide +kernel
theorem dX9_idle_73 : decode cX9_idle 73 = .ok (.iload_n 3, 1) := by decide +kernel
theorem dX9_idle_74 : decode cX9_idle 74 = .ok (.if_icmp .le 20, 3) := by decide +kernel
theorem dX9_idle_77 : decode cX9_idle 77 = .ok (.aload_n 0, 1) := by decide +kernel
theorem dX9_idle_78 : decode cX9_idle 78 = .ok (.iload_n 1, 1) := by decide +kernel
theorem dX9_idle_79 : decode cX9_idle 79 = .ok (.iload 4, 2) := by decide +kernel
theorem dX9_idle_81 : decode cX9_idle 81 = .ok (.invokevirtual 80, 3) := by decide +kernel
theorem dX9_idle_84 : decode cX9_idle 84 = .ok (.aload_n 0, 1) := by decide +kernel
theorem dX9_idle_85 : decode cX9_idle 85 = .ok (.getfield 7, 3) := by decide +kernel
theorem dX9_idle_88 : decode cX9_idle 88 = .ok (.iconst 4, 1) := by decide +kernel
theorem dX9_idle_89 : decode cX9_idle 89 = .ok (.iaload, 1) := by decide +kernel
theorem dX9_idle_90 : decode cX9_idle 90 = .ok (.iadd, 1) := by decide +kernel
theorem dX9_idle_91 : decode cX9_idle 91 = .ok (.iconst 1, 1) := by decide +kernel
theorem dX9_idle_92 : decode cX9_idle 92 = .ok (.iadd, 1) := by decide +kernel
theorem dX9_idle_93 : decode cX9_idle 93 = .ok (.istore_n 3, 1) := by decide +kernel
theorem dX9_idle_94 : decode cX9_idle 94 = .ok (.iinc 4 1, 3) := by decide +kernel
theorem dX9_idle_97 : decode cX9_idle 97 = .ok (.goto (-65), 3) := by decide +kernel
theorem dX9_idle_100 : decode cX9_idle 100 = .ok (.iload_n 3, 1) := by decide +kernel
theorem dX9_idle_101 : decode cX9_idle 101 = .ok (.ireturn, 1) := by decide +kernel
theorem dJx29ce0_ordinal_8abf5_0 : decode cJx29ce0_ordinal_8abf5 0 = .ok (.aload_n 0, 1) := by decide +kernel
theorem dJx29ce0_ordinal_8abf5_1 : decode cJx29ce0_ordinal_8abf5 1 = .ok (.getfield 7, 3) := by decide +kernel
theorem dJx29ce0_ordinal_8abf5_4 : decode cJx29ce0_ordinal_8abf5 4 = .ok (.ireturn, 1) := by decide +kernel
theorem dJxf58ca_isNaN_12338_0 : decode cJxf58ca_isNaN_12338 0 = .ok (.fload_n 0, 1) := by decide +kernel
theorem dJxf58ca_isNaN_12338_1 : decode cJxf58ca_isNaN_12338 1 = .ok (.fload_n 0, 1) := by decide +kernel
theorem dJxf58ca_isNaN_12338_2 : decode cJxf58ca_isNaN_12338 2 = .ok (.fcmp .l, 1) := by decide +kernel
theorem dJxf58ca_isNaN_12338_3 : decode cJxf58ca_isNaN_12338 3 = .ok (.ifCond .eq 7, 3) := by decide +kernel
theorem dJxf58ca_isNaN_12338_6 : decode cJxf58ca_isNaN_12338 6 = .ok (.iconst 1, 1) := by decide +kernel
theorem dJxf58ca_isNaN_12338_7 : decode cJxf58ca_isNaN_12338 7 = .ok (.goto 4, 3) := by decide +kernel
theorem dJxf58ca_isNaN_12338_10 : decode cJxf58ca_isNaN_12338 10 = .ok (.iconst 0, 1) := by decide +kernel
theorem dJxf58ca_isNaN_12338_11 : decode cJxf58ca_isNaN_12338 11 = .ok (.ireturn, 1) := by decide +kernel
theorem dJxf58ca_floatToIntBits_5c35a_0 : decode cJxf58ca_floatToIntBits_5c35a 0 = .ok (.fload_n 0, 1) := by decide +kernel
theorem dJxf58ca_floatToIntBits_5c35a_1 : decode cJxf58ca_floatToIntBits_5c35a 1 = .ok (.invokestatic 59, 3) := by decide +kernel
theorem dJxf58ca_floatToIntBits_5c35a_4 : decode cJxf58ca_floatToIntBits_5c35a 4 = .ok (.ifCond .ne 8, 3) := by decide +kernel
theorem dJxf58ca_floatToIntBits_5c35a_7 : decode cJxf58ca_floatToIntBits_5c35a 7 = .ok (.fload_n 0, 1) := by decide +kernel
theorem dJxf58ca_floatToIntBits_5c35a_8 : decode cJxf58ca_floatToIntBits_5c35a 8 = .ok (.invokestatic 74, 3) := by decide +kernel
theorem dJxf58ca_floatToIntBits_5c35a_11 : decode cJxf58ca_floatToIntBits_5c35a 11 = .ok (.ireturn, 1) := by decide +kernel
theorem dJxf58ca_floatToIntBits_5c35a_12 : decode cJxf58ca_floatToIntBits_5c35a 12 = .ok (.ldc 77, 2) := by decide +kernel
theorem dJxf58ca_floatToIntBits_5c35a_14 : decode cJxf58ca_floatToIntBits_5c35a 14 = .ok (.ireturn, 1) := by decide +kernel
theorem dJ9_abs_0f7a4_0 : decode cJ9_abs_0f7a4 0 = .ok (.iload_n 0, 1) := by decide +kernel
theorem dJ9_abs_0f7a4_1 : decode cJ9_abs_0f7a4 1 = .ok (.ifCond .ge 8, 3) := by decide +kernel
theorem dJ9_abs_0f7a4_4 : decode cJ9_abs_0f7a4 4 = .ok (.iload_n 0, 1) := by decide +kernel
theorem dJ9_abs_0f7a4_5 : decode cJ9_abs_0f7a4 5 = .ok (.ineg, 1) := by decide +kernel
theorem dJ9_abs_0f7a4_6 : decode cJ9_abs_0f7a4 6 = .ok (.goto 4, 3) := by decide +kernel
theorem dJ9_abs_0f7a4_9 : decode cJ9_abs_0f7a4 9 = .ok (.iload_n 0, 1) := by decide +kernel
theorem dJ9_abs_0f7a4_10 : decode cJ9_abs_0f7a4 10 = .ok (.ireturn, 1) := by decide +kernel
theorem dJ9_max_7cf53_0 : decode cJ9_max_7cf53 0 = .ok (.iload_n 0, 1) := by decide +kernel
theorem dJ9_max_7cf53_1 : decode cJ9_max_7cf53 1 = .ok (.iload_n 1, 1) := by decide +kernel
theorem dJ9_max_7cf53_2 : decode cJ9_max_7cf53 2 = .ok (.if_icmp .lt 7, 3) := by decide +kernel
theorem dJ9_max_7cf53_5 : decode cJ9_max_7cf53 5 = .ok (.iload_n 0, 1) := by decide +kernel
theorem dJ9_max_7cf53_6 : decode cJ9_max_7cf53 6 = .ok (.goto 4, 3) := by decide +kernel
theorem dJ9_max_7cf53_9 : decode cJ9_max_7cf53 9 = .ok (.iload_n 1, 1) := by decide +kernel
theorem dJ9_max_7cf53_10 : decode cJ9_max_7cf53 10 = .ok (.ireturn, 1) := by decide +kernel
theorem dJ0_length_8abf5_0 : decode cJ0_length_8abf5 0 = .ok (.aload_n 0, 1) := by decide +kernel
theorem dJ0_length_8abf5_1 : decode cJ0_length_8abf5 1 = .ok (.getfield 9, 3) := by decide +kernel
theorem dJ0_length_8abf5_4 : decode cJ0_length_8abf5 4 = .ok (.arraylength, 1) := by decide +kernel
theorem dJ0_length_8abf5_5 : decode cJ0_length_8abf5 5 = .ok (.aload_n 0, 1) := by decide +kernel
theorem dJ0_length_8abf5_6 : decode cJ0_length_8abf5 6 = .ok (.invokevirtual 335, 3) := by decide +kernel
theorem dJ0_length_8abf5_9 : decode cJ0_length_8abf5 9 = .ok (.ishr, 1) := by decide +kernel
theorem dJ0_length_8abf5_10 : decode cJ0_length_8abf5 10 = .ok (.ireturn, 1) := by decide +kernel
theorem dJ0_charAt_5068e_0 : decode cJ0_charAt_5068e 0 = .ok (.aload_n 0, 1) := by decide +kernel
theorem dJ0_charAt_5068e_1 : decode cJ0_charAt_5068e 1 = .ok (.invokevirtual 492, 3) := by decide +kernel
theorem dJ0_charAt_5068e_4 : decode cJ0_charAt_5068e 4 = .ok (.ifCond .eq 12, 3) := by decide +kernel
theorem dJ0_charAt_5068e_7 : decode cJ0_charAt_5068e 7 = .ok (.aload_n 0, 1) := by decide +kernel
theorem dJ0_charAt_5068e_8 : decode cJ0_charAt_5068e 8 = .ok (.getfield 9, 3) := by decide +kernel
theorem dJ0_charAt_5068e_11 : decode cJ0_charAt_5068e 11 = .ok (.iload_n 1, 1) := by decide +kernel
theorem dJ0_charAt_5068e_12 : decode cJ0_charAt_5068e 12 = .ok (.invokestatic 495, 3) := by decide +kernel
theorem dJ0_charAt_5068e_15 : decode cJ0_charAt_5068e 15 = .ok (.ireturn, 1) := by decide +kernel
theorem dJ0_charAt_5068e_16 : decode cJ0_charAt_5068e 16 = .ok (.aload_n 0, 1) := by decide +kernel
theorem dJ0_charAt_5068e_17 : decode cJ0_charAt_5068e 17 = .ok (.getfield 9, 3) := by decide +kernel
theorem dJ0_charAt_5068e_20 : decode cJ0_charAt_5068e 20 = .ok (.iload_n 1, 1) := by decide +kernel
theorem dJ0_charAt_5068e_21 : decode cJ0_charAt_5068e 21 = .ok (.invokestatic 498, 3) := by decide +kernel
theorem dJ0_charAt_5068e_24 : decode cJ0_charAt_5068e 24 = .ok (.ireturn, 1) := by decide +kernel
theorem dJ0_coder_7d493_0 : decode cJ0_coder_7d493 0 = .ok (.getstatic 38, 3) := by decide +kernel
theorem dJ0_coder_7d493_3 : decode cJ0_coder_7d493 3 = .ok (.ifCond .eq 10, 3) := by decide +kernel
theorem dJ0_coder_7d493_6 : decode cJ0_coder_7d493 6 = .ok (.aload_n 0, 1) := by decide +kernel
theorem dJ0_coder_7d493_7 : decode cJ0_coder_7d493 7 = .ok (.getfield 15, 3) := by decide +kernel
theorem dJ0_coder_7d493_10 : decode cJ0_coder_7d493 10 = .ok (.goto 4, 3) := by decide +kernel
theorem dJ0_coder_7d493_13 : decode cJ0_coder_7d493 13 = .ok (.iconst 1, 1) := by decide +kernel
theorem dJ0_coder_7d493_14 : decode cJ0_coder_7d493 14 = .ok (.ireturn, 1) := by decide +kernel
theorem dJ0_isLatin1_aae02_0 : decode cJ0_isLatin1_aae02 0 = .ok (.getstatic 38, 3) := by decide +kernel
theorem dJ0_isLatin1_aae02_3 : decode cJ0_isLatin1_aae02 3 = .ok (.ifCond .eq 14, 3) := by decide +kernel
theorem dJ0_isLatin1_aae02_6 : decode cJ0_isLatin1_aae02 6 = .ok (.aload_n 0, 1) := by decide +kernel
theorem dJ0_isLatin1_aae02_7 : decode cJ0_isLatin1_aae02 7 = .ok (.getfield 15, 3) := by decide +kernel
theorem dJ0_isLatin1_aae02_10 : decode cJ0_isLatin1_aae02 10 = .ok (.ifCond .ne 7, 3) := by decide +kernel
theorem dJ0_isLatin1_aae02_13 : decode cJ0_isLatin1_aae02 13 = .ok (.iconst 1, 1) := by decide +kernel
theorem dJ0_isLatin1_aae02_14 : decode cJ0_isLatin1_aae02 14 = .ok (.goto 4, 3) := by decide +kernel
theorem dJ0_isLatin1_aae02_17 : decode cJ0_isLatin1_aae02 17 = .ok (.iconst 0, 1) := by decide +kernel
theorem dJ0_isLatin1_aae02_18 : decode cJ0_isLatin1_aae02 18 = .ok (.ireturn, 1) := by decide +kernel
theorem dJ0_checkIndex_df160_0 : decode cJ0_checkIndex_df160 0 = .ok (.iload_n 0, 1) := by decide +kernel
theorem dJ0_checkIndex_df160_1 : decode cJ0_checkIndex_df160 1 = .ok (.iload_n 1, 1) := by decide +kernel
theorem dJ0_checkIndex_df160_2 : decode cJ0_checkIndex_df160 2 = .ok (.getstatic 1053, 3) := by decide +kernel
theorem dJ0_checkIndex_df160_5 : decode cJ0_checkIndex_df160 5 = .ok (.invokestatic 1059, 3) := by decide +kernel
theorem dJ0_checkIndex_df160_8 : decode cJ0_checkIndex_df160 8 = .ok (.pop, 1) := by decide +kernel
theorem dJ0_checkIndex_df160_9 : decode cJ0_checkIndex_df160 9 = .ok (.return_, 1) := by decide +kernel
theorem dJ1_charAt_3b067_0 : decode cJ1_charAt_3b067 0 = .ok (.iload_n 1, 1) := by decide +kernel
theorem dJ1_charAt_3b067_1 : decode cJ1_charAt_3b067 1 = .ok (.aload_n 0, 1) := by decide +kernel
theorem dJ1_charAt_3b067_2 : decode cJ1_charAt_3b067 2 = .ok (.arraylength, 1) := by decide +kernel
theorem dJ1_charAt_3b067_3 : decode cJ1_charAt_3b067 3 = .ok (.invokestatic 9, 3) := by decide +kernel
theorem dJ1_charAt_3b067_6 : decode cJ1_charAt_3b067 6 = .ok (.aload_n 0, 1) := by decide +kernel
theorem dJ1_charAt_3b067_7 : decode cJ1_charAt_3b067 7 = .ok (.iload_n 1, 1) := by decide +kernel
theorem dJ1_charAt_3b067_8 : decode cJ1_charAt_3b067 8 = .ok (.baload, 1) := by decide +kernel
theorem dJ1_charAt_3b067_9 : decode cJ1_charAt_3b067 9 = .ok (.sipush 255, 3) := by decide +kernel
theorem dJ1_charAt_3b067_12 : decode cJ1_charAt_3b067 12 = .ok (.iand, 1) := by decide +kernel
theorem dJ1_charAt_3b067_13 : decode cJ1_charAt_3b067 13 = .ok (.i2c, 1) := by decide +kernel
theorem dJ1_charAt_3b067_14 : decode cJ1_charAt_3b067 14 = .ok (.ireturn, 1) := by decide +kernel
theorem dJ2_getChar_3b067_0 : decode cJ2_getChar_3b067 0 = .ok (.getstatic 44, 3) := by decide +kernel
theorem dJ2_getChar_3b067_3 : decode cJ2_getChar_3b067 3 = .ok (.ifCond .ne 25, 3) := by decide +kernel
theorem dJ2_getChar_3b067_6 : decode cJ2_getChar_3b067 6 = .ok (.iload_n 1, 1) := by decide +kernel
theorem dJ2_getChar_3b067_7 : decode cJ2_getChar_3b067 7 = .ok (.ifCond .lt 11, 3) := by decide +kernel
theorem dJ2_getChar_3b067_10 : decode cJ2_getChar_3b067 10 = .ok (.iload_n 1, 1) := by decide +kernel
theorem dJ2_getChar_3b067_11 : decode cJ2_getChar_3b067 11 = .ok (.aload_n 0, 1) := by decide +kernel
theorem dJ2_getChar_3b067_12 : decode cJ2_getChar_3b067 12 = .ok (.invokestatic 48, 3) := by decide +kernel
theorem dJ2_getChar_3b067_15 : decode cJ2_getChar_3b067 15 = .ok (.if_icmp .lt 13, 3) := by decide +kernel
theorem dJ2_getChar_3b067_18 : decode cJ2_getChar_3b067 18 = .ok (.new 52, 3) := by decide +kernel
theorem dJ2_getChar_3b067_21 : decode cJ2_getChar_3b067 21 = .ok (.dup, 1) := by decide +kernel
theorem dJ2_getChar_3b067_22 : decode cJ2_getChar_3b067 22 = .ok (.ldc 54, 2) := by decide +kernel
theorem dJ2_getChar_3b067_24 : decode cJ2_getChar_3b067 24 = .ok (.invokespecial 56, 3) := by decide +kernel
theorem dJ2_getChar_3b067_27 : decode cJ2_getChar_3b067 27 = .ok (.athrow, 1) := by decide +kernel
theorem dJ2_getChar_3b067_28 : decode cJ2_getChar_3b067 28 = .ok (.iload_n 1, 1) := by decide +kernel
theorem dJ2_getChar_3b067_29 : decode cJ2_getChar_3b067 29 = .ok (.iconst 1, 1) := by decide +kernel
theorem dJ2_getChar_3b067_30 : decode cJ2_getChar_3b067 30 = .ok (.ishl, 1) := by decide +kernel
theorem dJ2_getChar_3b067_31 : decode cJ2_getChar_3b067 31 = .ok (.istore_n 1, 1) := by decide +kernel
theorem dJ2_getChar_3b067_32 : decode cJ2_getChar_3b067 32 = .ok (.aload_n 0, 1) := by decide +kernel
theorem dJ2_getChar_3b067_33 : decode cJ2_getChar_3b067 33 = .ok (.iload_n 1, 1) := by decide +kernel
theorem dJ2_getChar_3b067_34 : decode cJ2_getChar_3b067 34 = .ok (.iinc 1 1, 3) := by decide +kernel
theorem dJ2_getChar_3b067_37 : decode cJ2_getChar_3b067 37 = .ok (.baload, 1) := by decide +kernel
theorem dJ2_getChar_3b067_38 : decode cJ2_getChar_3b067 38 = .ok (.sipush 255, 3) := by decide +kernel
theorem dJ2_getChar_3b067_41 : decode cJ2_getChar_3b067 41 = .ok (.iand, 1) := by decide +kernel
theorem dJ2_getChar_3b067_42 : decode cJ2_getChar_3b067 42 = .ok (.getstatic 59, 3) := by decide +kernel
theorem dJ2_getChar_3b067_45 : decode cJ2_getChar_3b067 45 = .ok (.ishl, 1) := by decide +kernel
theorem dJ2_getChar_3b067_46 : decode cJ2_getChar_3b067 46 = .ok (.aload_n 0, 1) := by decide +kernel
theorem dJ2_getChar_3b067_47 : decode cJ2_getChar_3b067 47 = .ok (.iload_n 1, 1) := by decide +kernel
theorem dJ2_getChar_3b067_48 : decode cJ2_getChar_3b067 48 = .ok (.baload, 1) := by decide +kernel
theorem dJ2_getChar_3b067_49 : decode cJ2_getChar_3b067 49 = .ok (.sipush 255, 3) := by decide +kernel
theorem dJ2_getChar_3b067_52 : decode cJ2_getChar_3b067 52 = .ok (.iand, 1) := by decide +kernel
theorem dJ2_getChar_3b067_53 : decode cJ2_getChar_3b067 53 = .ok (.getstatic 63, 3) := by decide +kernel
theorem dJ2_getChar_3b067_56 : decode cJ2_getChar_3b067 56 = .ok (.ishl, 1) := by decide +kernel
theorem dJ2_getChar_3b067_57 : decode cJ2_getChar_3b067 57 = .ok (.ior, 1) := by decide +kernel
theorem dJ2_getChar_3b067_58 : decode cJ2_getChar_3b067 58 = .ok (.i2c, 1) := by decide +kernel
theorem dJ2_getChar_3b067_59 : decode cJ2_getChar_3b067 59 = .ok (.ireturn, 1) := by decide +kernel
theorem dJ2_length_9d52b_0 : decode cJ2_length_9d52b 0 = .ok (.aload_n 0, 1) := by decide +kernel
theorem dJ2_length_9d52b_1 : decode cJ2_length_9d52b 1 = .ok (.arraylength, 1) := by decide +kernel
theorem dJ2_length_9d52b_2 : decode cJ2_length_9d52b 2 = .ok (.iconst 1, 1) := by decide +kernel
theorem dJ2_length_9d52b_3 : decode cJ2_length_9d52b 3 = .ok (.ishr, 1) := by decide +kernel
theorem dJ2_length_9d52b_4 : decode cJ2_length_9d52b 4 = .ok (.ireturn, 1) := by decide +kernel
theorem dJ2_charAt_3b067_0 : decode cJ2_charAt_3b067 0 = .ok (.iload_n 1, 1) := by decide +kernel
theorem dJ2_charAt_3b067_1 : decode cJ2_charAt_3b067 1 = .ok (.aload_n 0, 1) := by decide +kernel
theorem dJ2_charAt_3b067_2 : decode cJ2_charAt_3b067 2 = .ok (.invokestatic 67, 3) := by decide +kernel
theorem dJ2_charAt_3b067_5 : decode cJ2_charAt_3b067 5 = .ok (.aload_n 0, 1) := by decide +kernel
theorem dJ2_charAt_3b067_6 : decode cJ2_charAt_3b067 6 = .ok (.iload_n 1, 1) := by decide +kernel
theorem dJ2_charAt_3b067_7 : decode cJ2_charAt_3b067 7 = .ok (.invokestatic 71, 3) := by decide +kernel
theorem dJ2_charAt_3b067_10 : decode cJ2_charAt_3b067 10 = .ok (.ireturn, 1) := by decide +kernel
theorem dJ2_checkIndex_2214a_0 : decode cJ2_checkIndex_2214a 0 = .ok (.iload_n 0, 1) := by decide +kernel
theorem dJ2_checkIndex_2214a_1 : decode cJ2_checkIndex_2214a 1 = .ok (.aload_n 1, 1) := by decide +kernel
theorem dJ2_checkIndex_2214a_2 : decode cJ2_checkIndex_2214a 2 = .ok (.invokestatic 48, 3) := by decide +kernel
theorem dJ2_checkIndex_2214a_5 : decode cJ2_checkIndex_2214a 5 = .ok (.invokestatic 414, 3) := by decide +kernel
theorem dJ2_checkIndex_2214a_8 : decode cJ2_checkIndex_2214a 8 = .ok (.return_, 1) := by decide +kernel
theorem dJ3_checkIndex_8e157_0 : decode cJ3_checkIndex_8e157 0 = .ok (.iload_n 0, 1) := by decide +kernel
theorem dJ3_checkIndex_8e157_1 : decode cJ3_checkIndex_8e157 1 = .ok (.ifCond .lt 8, 3) := by decide +kernel
theorem dJ3_checkIndex_8e157_4 : decode cJ3_checkIndex_8e157 4 = .ok (.iload_n 0, 1) := by decide +kernel
theorem dJ3_checkIndex_8e157_5 : decode cJ3_checkIndex_8e157 5 = .ok (.iload_n 1, 1) := by decide +kernel
theorem dJ3_checkIndex_8e157_6 : decode cJ3_checkIndex_8e157 6 = .ok (.if_icmp .lt 10, 3) := by decide +kernel
theorem dJ3_checkIndex_8e157_9 : decode cJ3_checkIndex_8e157 9 = .ok (.aload_n 2, 1) := by decide +kernel
theorem dJ3_checkIndex_8e157_10 : decode cJ3_checkIndex_8e157 10 = .ok (.iload_n 0, 1) := by decide +kernel
theorem dJ3_checkIndex_8e157_11 : decode cJ3_checkIndex_8e157 11 = .ok (.iload_n 1, 1) := by decide +kernel
theorem dJ3_checkIndex_8e157_12 : decode cJ3_checkIndex_8e157 12 = .ok (.invokestatic 95, 3) := by decide +kernel
theorem dJ3_checkIndex_8e157_15 : decode cJ3_checkIndex_8e157 15 = .ok (.athrow, 1) := by decide +kernel
theorem dJ3_checkIndex_8e157_16 : decode cJ3_checkIndex_8e157 16 = .ok (.iload_n 0, 1) := by decide +kernel
theorem dJ3_checkIndex_8e157_17 : decode cJ3_checkIndex_8e157 17 = .ok (.ireturn, 1) := by decide +kernel
theorem dL_of_0 : decode cL_of 0 = .ok (.aload_n 3, 1) := by decide +kernel
theorem dL_of_1 : decode cL_of 1 = .ok (.iconst 0, 1) := by decide +kernel
theorem dL_of_2 : decode cL_of 2 = .ok (.aload_n 0, 1) := by decide +kernel
theorem dL_of_3 : decode cL_of 3 = .ok (.iload_n 1, 1) := by decide +kernel
theorem dL_of_4 : decode cL_of 4 = .ok (.iload_n 2, 1) := by decide +kernel
theorem dL_of_5 : decode cL_of 5 = .ok (.invokevirtual 7, 3) := by decide +kernel
theorem dL_of_8 : decode cL_of 8 = .ok (.i2l, 1) := by decide +kernel
theorem dL_of_9 : decode cL_of 9 = .ok (.lastore, 1) := by decide +kernel
theorem dL_of_10 : decode cL_of 10 = .ok (.goto 7, 3) := by decide +kernel
theorem dL_of_13 : decode cL_of 13 = .ok (.astore 4, 2) := by decide +kernel
theorem dL_of_15 : decode cL_of 15 = .ok (.iconst 1, 1) := by decide +kernel
theorem dL_of_16 : decode cL_of 16 = .ok (.ireturn, 1) := by decide +kernel
theorem dL_of_17 : decode cL_of 17 = .ok (.iconst 0, 1) := by decide +kernel
theorem dL_of_18 : decode cL_of 18 = .ok (.ireturn, 1) := by decide +kernel
theorem dL_law_0 : decode cL_law 0 = .ok (.new 8, 3) := by decide +kernel
theorem dL_law_3 : decode cL_law 3 = .ok (.dup, 1) := by decide +kernel
theorem dL_law_4 : decode cL_law 4 = .ok (.invokespecial 15, 3) := by decide +kernel
theorem dL_law_7 : decode cL_law 7 = .ok (.astore_n 1, 1) := by decide +kernel
theorem dL_law_8 : decode cL_law 8 = .ok (.new 16, 3) := by decide +kernel
theorem dL_law_11 : decode cL_law 11 = .ok (.dup, 1) := by decide +kernel
theorem dL_law_12 : decode cL_law 12 = .ok (.invokespecial 18, 3) := by decide +kernel
theorem dL_law_15 : decode cL_law 15 = .ok (.astore_n 2, 1) := by decide +kernel
theorem dL_law_16 : decode cL_law 16 = .ok (.iconst 1, 1) := by decide +kernel
theorem dL_law_17 : decode cL_law 17 = .ok (.newarray .long, 2) := by decide +kernel
theorem dL_law_19 : decode cL_law 19 = .ok (.astore_n 3, 1) := by decide +kernel
theorem dL_law_20 : decode cL_law 20 = .ok (.iconst 0, 1) := by decide +kernel
theorem dL_law_21 : decode cL_law 21 = .ok (.istore 4, 2) := by decide +kernel
theorem dL_law_23 : decode cL_law 23 = .ok (.iload 4, 2) := by decide +kernel
theorem dL_law_25 : decode cL_law 25 = .ok (.aload_n 0, 1) := by decide +kernel
theorem dL_law_26 : decode cL_law 26 = .ok (.arraylength, 1) := by decide +kernel
theorem dL_law_27 : decode cL_law 27 = .ok (.bipush 6, 2) := by decide +kernel
theorem dL_law_29 : decode cL_law 29 = .ok (.isub, 1) := by decide +kernel
theorem dL_law_30 : decode cL_law 30 = .ok (.if_icmp .gt 1237, 3) := by decide +kernel
theorem dL_law_33 : decode cL_law 33 = .ok (.aload_n 0, 1) := by decide +kernel
theorem dL_law_34 : decode cL_law 34 = .ok (.iload 4, 2) := by decide +kernel
theorem dL_law_36 : decode cL_law 36 = .ok (.iaload, 1) := by decide +kernel
theorem dL_law_37 : decode cL_law 37 = .ok (.bipush 31, 2) := by decide +kernel
theorem dL_law_39 : decode cL_law 39 = .ok (.iand, 1) := by decide +kernel
theorem dL_law_40 : decode cL_law 40 = .ok (.tableswitch 1221 0 29 #[136, 209, 234, 247, 260, 285, 322, 359, 408, 445, 470, 507, 532, 557, 625, 662, 699, 736, 773, 798, 823, 860, 897, 974, 999, 1024, 1073, 1110, 1147, 1184], 136) := by decide +kernel
theorem dL_law_176 : decode cL_law 176 = .ok (.aload_n 1, 1) := by decide +kernel
theorem dL_law_177 : decode cL_law 177 = .ok (.aload_n 0, 1) := by decide +kernel
theorem dL_law_178 : decode cL_law 178 = .ok (.iload 4, 2) := by decide +kernel
theorem dL_law_180 : decode cL_law 180 = .ok (.iconst 1, 1) := by decide +kernel
theorem dL_law_181 : decode cL_law 181 = .ok (.iadd, 1) := by decide +kernel
theorem dL_law_182 : decode cL_law 182 = .ok (.iaload, 1) := by decide +kernel
theorem dL_law_183 : decode cL_law 183 = .ok (.aload_n 0, 1) := by decide +kernel
theorem dL_law_184 : decode cL_law 184 = .ok (.iload 4, 2) := by decide +kernel
theorem dL_law_186 : decode cL_law 186 = .ok (.iconst 2, 1) := by decide +kernel
theorem dL_law_187 : decode cL_law 187 = .ok (.iadd, 1) := by decide +kernel
theorem dL_law_188 : decode cL_law 188 = .ok (.iaload, 1) := by decide +kernel
theorem dL_law_189 : decode cL_law 189 = .ok (.aload_n 0, 1) := by decide +kernel
theorem dL_law_190 : decode cL_law 190 = .ok (.iload 4, 2) := by decide +kernel
theorem dL_law_192 : decode cL_law 192 = .ok (.iconst 3, 1) := by decide +kernel
theorem dL_law_193 : decode cL_law 193 = .ok (.iadd, 1) := by decide +kernel
theorem dL_law_194 : decode cL_law 194 = .ok (.iaload, 1) := by decide +kernel
theorem dL_law_195 : decode cL_law 195 = .ok (.aload_n 0, 1) := by decide +kernel
theorem dL_law_196 : decode cL_law 196 = .ok (.iload 4, 2) := by decide +kernel
theorem dL_law_198 : decode cL_law 198 = .ok (.iconst 4, 1) := by decide +kernel
theorem dL_law_199 : decode cL_law 199 = .ok (.iadd, 1) := by decide +kernel
theorem dL_law_200 : decode cL_law 200 = .ok (.iaload, 1) := by decide +kernel
theorem dL_law_201 : decode cL_law 201 = .ok (.aload_n 0, 1) := by decide +kernel
theorem dL_law_202 : decode cL_law 202 = .ok (.iload 4, 2) := by decide +kernel
theorem dL_law_204 : decode cL_law 204 = .ok (.iconst 5, 1) := by decide +kernel
theorem dL_law_205 : decode cL_law 205 = .ok (.iadd, 1) := by decide +kernel
theorem dL_law_206 : decode cL_law 206 = .ok (.iaload, 1) := by decide +kernel
theorem dL_law_207 : decode cL_law 207 = .ok (.invokevirtual 19, 3) := by decide +kernel
theorem dL_law_210 : decode cL_law 210 = .ok (.aload_n 2, 1) := by decide +kernel
theorem dL_law_211 : decode cL_law 211 = .ok (.aload_n 0, 1) := by decide +kernel
theorem dL_law_212 : decode cL_law 212 = .ok (.iload 4, 2) := by decide +kernel
theorem dL_law_214 : decode cL_law 214 = .ok (.iconst 1, 1) := by decide +kernel
theorem dL_law_215 : decode cL_law 215 = .ok (.iadd, 1) := by decide +kernel
theorem dL_law_216 : decode cL_law 216 = .ok (.iaload, 1) := by decide +kernel
theorem dL_law_217 : decode cL_law 217 = .ok (.aload_n 0, 1) := by decide +kernel
theorem dL_law_218 : decode cL_law 218 = .ok (.iload 4, 2) := by decide +kernel
theorem dL_law_220 : decode cL_law 220 = .ok (.iconst 2, 1) := by decide +kernel
theorem dL_law_221 : decode cL_law 221 = .ok (.iadd, 1) := by decide +kernel
theorem dL_law_222 : decode cL_law 222 = .ok (.iaload, 1) := by decide +kernel
theorem dL_law_223 : decode cL_law 223 = .ok (.aload_n 0, 1) := by decide +kernel
theorem dL_law_224 : decode cL_law 224 = .ok (.iload 4, 2) := by decide +kernel
theorem dL_law_226 : decode cL_law 226 = .ok (.iconst 3, 1) := by decide +kernel
theorem dL_law_227 : decode cL_law 227 = .ok (.iadd, 1) := by decide +kernel
theorem dL_law_228 : decode cL_law 228 = .ok (.iaload, 1) := by decide +kernel
theorem dL_law_229 : decode cL_law 229 = .ok (.aload_n 0, 1) := by decide +kernel
theorem dL_law_230 : decode cL_law 230 = .ok (.iload 4, 2) := by decide +kernel
theorem dL_law_232 : decode cL_law 232 = .ok (.iconst 4, 1) := by decide +kernel
theorem dL_law_233 : decode cL_law 233 = .ok (.iadd, 1) := by decide +kernel
theorem dL_law_234 : decode cL_law 234 = .ok (.iaload, 1) := by decide +kernel
theorem dL_law_235 : decode cL_law 235 = .ok (.aload_n 0, 1) := by decide +kernel
theorem dL_law_236 : decode cL_law 236 = .ok (.iload 4, 2) := by decide +kernel
theorem dL_law_238 : decode cL_law 238 = .ok (.iconst 5, 1) := by decide +kernel
theorem dL_law_239 : decode cL_law 239 = .ok (.iadd, 1) := by decide +kernel
theorem dL_law_240 : decode cL_law 240 = .ok (.iaload, 1) := by decide +kernel
theorem dL_law_241 : decode cL_law 241 = .ok (.invokevirtual 23, 3) := by decide +kernel
theorem dL_law_244 : decode cL_law 244 = .ok (.if_icmp .eq 1017, 3) := by decide +kernel
theorem dL_law_247 : decode cL_law 247 = .ok (.iconst 0, 1) := by decide +kernel
theorem dL_law_248 : decode cL_law 248 = .ok (.ireturn, 1) := by decide +kernel
theorem dL_law_249 : decode cL_law 249 = .ok (.aload_n 1, 1) := by decide +kernel
theorem dL_law_250 : decode cL_law 250 = .ok (.aload_n 0, 1) := by decide +kernel
theorem dL_law_251 : decode cL_law 251 = .ok (.iload 4, 2) := by decide +kernel
theorem dL_law_253 : decode cL_law 253 = .ok (.iconst 1, 1) := by decide +kernel
theorem dL_law_254 : decode cL_law 254 = .ok (.iadd, 1) := by decide +kernel
theorem dL_law_255 : decode cL_law 255 = .ok (.iaload, 1) := by decide +kernel
theorem dL_law_256 : decode cL_law 256 = .ok (.invokevirtual 24, 3) := by decide +kernel
theorem dL_law_259 : decode cL_law 259 = .ok (.aload_n 2, 1) := by decide +kernel
theorem dL_law_260 : decode cL_law 260 = .ok (.aload_n 0, 1) := by decide +kernel
theorem dL_law_261 : decode cL_law 261 = .ok (.iload 4, 2) := by decide +kernel
theorem dL_law_263 : decode cL_law 263 = .ok (.iconst 1, 1) := by decide +kernel
theorem dL_law_264 : decode cL_law 264 = .ok (.iadd, 1) := by decide +kernel
theorem dL_law_265 : decode cL_law 265 = .ok (.iaload, 1) := by decide +kernel
theorem dL_law_266 : decode cL_law 266 = .ok (.invokevirtual 28, 3) := by decide +kernel
theorem dL_law_269 : decode cL_law 269 = .ok (.if_icmp .eq 992, 3) := by decide +kernel
theorem dL_law_272 : decode cL_law 272 = .ok (.iconst 0, 1) := by decide +kernel
theorem dL_law_273 : decode cL_law 273 = .ok (.ireturn, 1) := by decide +kernel
theorem dL_law_274 : decode cL_law 274 = .ok (.aload_n 1, 1) := by decide +kernel
theorem dL_law_275 : decode cL_law 275 = .ok (.invokevirtual 29, 3) := by decide +kernel
theorem dL_law_278 : decode cL_law 278 = .ok (.aload_n 2, 1) := by decide +kernel
theorem dL_law_279 : decode cL_law 279 = .ok (.invokevirtual 33, 3) := by decide +kernel
theorem dL_law_282 : decode cL_law 282 = .ok (.if_icmp .eq 979, 3) := by decide +kernel
theorem dL_law_285 : decode cL_law 285 = .ok (.iconst 0, 1) := by decide +kernel
theorem dL_law_286 : decode cL_law 286 = .ok (.ireturn, 1) := by decide +kernel
theorem dL_law_287 : decode cL_law 287 = .ok (.aload_n 1, 1) := by decide +kernel
theorem dL_law_288 : decode cL_law 288 = .ok (.invokevirtual 34, 3) := by decide +kernel
theorem dL_law_291 : decode cL_law 291 = .ok (.aload_n 2, 1) := by decide +kernel
theorem dL_law_292 : decode cL_law 292 = .ok (.invokevirtual 37, 3) := by decide +kernel
theorem dL_law_295 : decode cL_law 295 = .ok (.if_icmp .eq 966, 3) := by decide +kernel
theorem dL_law_298 : decode cL_law 298 = .ok (.iconst 0, 1) := by decide +kernel
theorem dL_law_299 : decode cL_law 299 = .ok (.ireturn, 1) := by decide +kernel
theorem dL_law_300 : decode cL_law 300 = .ok (.aload_n 1, 1) := by decide +kernel
theorem dL_law_301 : decode cL_law 301 = .ok (.aload_n 0, 1) := by decide +kernel
theorem dL_law_302 : decode cL_law 302 = .ok (.iload 4, 2) := by decide +kernel
theorem dL_law_304 : decode cL_law 304 = .ok (.iconst 1, 1) := by decide +kernel
theorem dL_law_305 : decode cL_law 305 = .ok (.iadd, 1) := by decide +kernel
theorem dL_law_306 : decode cL_law 306 = .ok (.iaload, 1) := by decide +kernel
theorem dL_law_307 : decode cL_law 307 = .ok (.invokevirtual 38, 3) := by decide +kernel
theorem dL_law_310 : decode cL_law 310 = .ok (.aload_n 2, 1) := by decide +kernel
theorem dL_law_311 : decode cL_law 311 = .ok (.aload_n 0, 1) := by decide +kernel
theorem dL_law_312 : decode cL_law 312 = .ok (.iload 4, 2) := by decide +kernel
theorem dL_law_314 : decode cL_law 314 = .ok (.iconst 1, 1) := by decide +kernel
theorem dL_law_315 : decode cL_law 315 = .ok (.iadd, 1) := by decide +kernel
theorem dL_law_316 : decode cL_law 316 = .ok (.iaload, 1) := by decide +kernel
theorem dL_law_317 : decode cL_law 317 = .ok (.invokevirtual 41, 3) := by decide +kernel
theorem dL_law_320 : decode cL_law 320 = .ok (.if_icmp .eq 941, 3) := by decide +kernel
theorem dL_law_323 : decode cL_law 323 = .ok (.iconst 0, 1) := by decide +kernel
theorem dL_law_324 : decode cL_law 324 = .ok (.ireturn, 1) := by decide +kernel
theorem dL_law_325 : decode cL_law 325 = .ok (.aload_n 1, 1) := by decide +kernel
theorem dL_law_326 : decode cL_law 326 = .ok (.aload_n 0, 1) := by decide +kernel
theorem dL_law_327 : decode cL_law 327 = .ok (.iload 4, 2) := by decide +kernel
theorem dL_law_329 : decode cL_law 329 = .ok (.iconst 1, 1) := by decide +kernel
theorem dL_law_330 : decode cL_law 330 = .ok (.iadd, 1) := by decide +kernel
theorem dL_law_331 : decode cL_law 331 = .ok (.iaload, 1) := by decide +kernel
theorem dL_law_332 : decode cL_law 332 = .ok (.aload_n 0, 1) := by decide +kernel
theorem dL_law_333 : decode cL_law 333 = .ok (.iload 4, 2) := by decide +kernel
theorem dL_law_335 : decode cL_law 335 = .ok (.iconst 2, 1) := by decide +kernel
theorem dL_law_336 : decode cL_law 336 = .ok (.iadd, 1) := by decide +kernel
theorem dL_law_337 : decode cL_law 337 = .ok (.iaload, 1) := by decide +kernel
theorem dL_law_338 : decode cL_law 338 = .ok (.invokevirtual 42, 3) := by decide +kernel
theorem dL_law_341 : decode cL_law 341 = .ok (.aload_n 2, 1) := by decide +kernel
theorem dL_law_342 : decode cL_law 342 = .ok (.aload_n 0, 1) := by decide +kernel
theorem dL_law_343 : decode cL_law 343 = .ok (.iload 4, 2) := by decide +kernel
theorem dL_law_345 : decode cL_law 345 = .ok (.iconst 1, 1) := by decide +kernel
theorem dL_law_346 : decode cL_law 346 = .ok (.iadd, 1) := by decide +kernel
theorem dL_law_347 : decode cL_law 347 = .ok (.iaload, 1) := by decide +kernel
theorem dL_law_348 : decode cL_law 348 = .ok (.aload_n 0, 1) := by decide +kernel
theorem dL_law_349 : decode cL_law 349 = .ok (.iload 4, 2) := by decide +kernel
theorem dL_law_351 : decode cL_law 351 = .ok (.iconst 2, 1) := by decide +kernel
theorem dL_law_352 : decode cL_law 352 = .ok (.iadd, 1) := by decide +kernel
theorem dL_law_353 : decode cL_law 353 = .ok (.iaload, 1) := by decide +kernel
theorem dL_law_354 : decode cL_law 354 = .ok (.invokevirtual 45, 3) := by decide +kernel
theorem dL_law_357 : decode cL_law 357 = .ok (.if_icmp .eq 904, 3) := by decide +kernel
theorem dL_law_360 : decode cL_law 360 = .ok (.iconst 0, 1) := by decide +kernel
theorem dL_law_361 : decode cL_law 361 = .ok (.ireturn, 1) := by decide +kernel
theorem dL_law_362 : decode cL_law 362 = .ok (.aload_n 1, 1) := by decide +kernel
theorem dL_law_363 : decode cL_law 363 = .ok (.aload_n 0, 1) := by decide +kernel
theorem dL_law_364 : decode cL_law 364 = .ok (.iload 4, 2) := by decide +kernel
theorem dL_law_366 : decode cL_law 366 = .ok (.iconst 1, 1) := by decide +kernel
theorem dL_law_367 : decode cL_law 367 = .ok (.iadd, 1) := by decide +kernel
theorem dL_law_368 : decode cL_law 368 = .ok (.iaload, 1) := by decide +kernel
theorem dL_law_369 : decode cL_law 369 = .ok (.aload_n 0, 1) := by decide +kernel
theorem dL_law_370 : decode cL_law 370 = .ok (.iload 4, 2) := by decide +kernel
theorem dL_law_372 : decode cL_law 372 = .ok (.iconst 2, 1) := by decide +kernel
theorem dL_law_373 : decode cL_law 373 = .ok (.iadd, 1) := by decide +kernel
theorem dL_law_374 : decode cL_law 374 = .ok (.iaload, 1) := by decide +kernel
theorem dL_law_375 : decode cL_law 375 = .ok (.invokevirtual 46, 3) := by decide +kernel
theorem dL_law_378 : decode cL_law 378 = .ok (.aload_n 2, 1) := by decide +kernel
theorem dL_law_379 : decode cL_law 379 = .ok (.aload_n 0, 1) := by decide +kernel
theorem dL_law_380 : decode cL_law 380 = .ok (.iload 4, 2) := by decide +kernel
theorem dL_law_382 : decode cL_law 382 = .ok (.iconst 1, 1) := by decide +kernel
theorem dL_law_383 : decode cL_law 383 = .ok (.iadd, 1) := by decide +kernel
theorem dL_law_384 : decode cL_law 384 = .ok (.iaload, 1) := by decide +kernel
theorem dL_law_385 : decode cL_law 385 = .ok (.aload_n 0, 1) := by decide +kernel
theorem dL_law_386 : decode cL_law 386 = .ok (.iload 4, 2) := by decide +kernel
theorem dL_law_388 : decode cL_law 388 = .ok (.iconst 2, 1) := by decide +kernel
theorem dL_law_389 : decode cL_law 389 = .ok (.iadd, 1) := by decide +kernel
theorem dL_law_390 : decode cL_law 390 = .ok (.iaload, 1) := by decide +kernel
theorem dL_law_391 : decode cL_law 391 = .ok (.invokevirtual 50, 3) := by decide +kernel
theorem dL_law_394 : decode cL_law 394 = .ok (.if_icmp .eq 867, 3) := by decide +kernel
theorem dL_law_397 : decode cL_law 397 = .ok (.iconst 0, 1) := by decide +kernel
theorem dL_law_398 : decode cL_law 398 = .ok (.ireturn, 1) := by decide +kernel
theorem dL_law_399 : decode cL_law 399 = .ok (.aload_n 1, 1) := by decide +kernel
theorem dL_law_400 : decode cL_law 400 = .ok (.aload_n 0, 1) := by decide +kernel
theorem dL_law_401 : decode cL_law 401 = .ok (.iload 4, 2) := by decide +kernel
theorem dL_law_403 : decode cL_law 403 = .ok (.iconst 1, 1) := by decide +kernel
theorem dL_law_404 : decode cL_law 404 = .ok (.iadd, 1) := by decide +kernel
theorem dL_law_405 : decode cL_law 405 = .ok (.iaload, 1) := by decide +kernel
theorem dL_law_406 : decode cL_law 406 = .ok (.aload_n 0, 1) := by decide +kernel
theorem dL_law_407 : decode cL_law 407 = .ok (.iload 4, 2) := by decide +kernel
theorem dL_law_409 : decode cL_law 409 = .ok (.iconst 2, 1) := by decide +kernel
theorem dL_law_410 : decode cL_law 410 = .ok (.iadd, 1) := by decide +kernel
theorem dL_law_411 : decode cL_law 411 = .ok (.iaload, 1) := by decide +kernel
theorem dL_law_412 : decode cL_law 412 = .ok (.aload_n 0, 1) := by decide +kernel
theorem dL_law_413 : decode cL_law 413 = .ok (.iload 4, 2) := by decide +kernel
theorem dL_law_415 : decode cL_law 415 = .ok (.iconst 3, 1) := by decide +kernel
theorem dL_law_416 : decode cL_law 416 = .ok (.iadd, 1) := by decide +kernel
theorem dL_law_417 : decode cL_law 417 = .ok (.iaload, 1) := by decide +kernel
theorem dL_law_418 : decode cL_law 418 = .ok (.invokevirtual 51, 3) := by decide +kernel
theorem dL_law_421 : decode cL_law 421 = .ok (.aload_n 2, 1) := by decide +kernel
theorem dL_law_422 : decode cL_law 422 = .ok (.aload_n 0, 1) := by decide +kernel
theorem dL_law_423 : decode cL_law 423 = .ok (.iload 4, 2) := by decide +kernel
theorem dL_law_425 : decode cL_law 425 = .ok (.iconst 1, 1) := by decide +kernel
theorem dL_law_426 : decode cL_law 426 = .ok (.iadd, 1) := by decide +kernel
theorem dL_law_427 : decode cL_law 427 = .ok (.iaload, 1) := by decide +kernel
theorem dL_law_428 : decode cL_law 428 = .ok (.aload_n 0, 1) := by decide +kernel
theorem dL_law_429 : decode cL_law 429 = .ok (.iload 4, 2) := by decide +kernel
theorem dL_law_431 : decode cL_law 431 = .ok (.iconst 2, 1) := by decide +kernel
theorem dL_law_432 : decode cL_law 432 = .ok (.iadd, 1) := by decide +kernel
theorem dL_law_433 : decode cL_law 433 = .ok (.iaload, 1) := by decide +kernel
theorem dL_law_434 : decode cL_law 434 = .ok (.aload_n 0, 1) := by decide +kernel
theorem dL_law_435 : decode cL_law 435 = .ok (.iload 4, 2) := by decide +kernel
theorem dL_law_437 : decode cL_law 437 = .ok (.iconst 3, 1) := by decide +kernel
theorem dL_law_438 : decode cL_law 438 = .ok (.iadd, 1) := by decide +kernel
theorem dL_law_439 : decode cL_law 439 = .ok (.iaload, 1) := by decide +kernel
theorem dL_law_440 : decode cL_law 440 = .ok (.invokevirtual 55, 3) := by decide +kernel
theorem dL_law_443 : decode cL_law 443 = .ok (.if_icmp .eq 818, 3) := by decide +kernel
theorem dL_law_446 : decode cL_law 446 = .ok (.iconst 0, 1) := by decide +kernel
theorem dL_law_447 : decode cL_law 447 = .ok (.ireturn, 1) := by decide +kernel
theorem dL_law_448 : decode cL_law 448 = .ok (.aload_n 1, 1) := by decide +kernel
theorem dL_law_449 : decode cL_law 449 = .ok (.aload_n 0, 1) := by decide +kernel
theorem dL_law_450 : decode cL_law 450 = .ok (.iload 4, 2) := by decide +kernel
theorem dL_law_452 : decode cL_law 452 = .ok (.iconst 1, 1) := by decide +kernel
theorem dL_law_453 : decode cL_law 453 = .ok (.iadd, 1) := by decide +kernel
theorem dL_law_454 : decode cL_law 454 = .ok (.iaload, 1) := by decide +kernel
theorem dL_law_455 : decode cL_law 455 = .ok (.aload_n 0, 1) := by decide +kernel
theorem dL_law_456 : decode cL_law 456 = .ok (.iload 4, 2) := by decide +kernel
theorem dL_law_458 : decode cL_law 458 = .ok (.iconst 2, 1) := by decide +kernel
theorem dL_law_459 : decode cL_law 459 = .ok (.iadd, 1) := by decide +kernel
theorem dL_law_460 : decode cL_law 460 = .ok (.iaload, 1) := by decide +kernel
theorem dL_law_461 : decode cL_law 461 = .ok (.invokevirtual 56, 3) := by decide +kernel
theorem dL_law_464 : decode cL_law 464 = .ok (.aload_n 2, 1) := by decide +kernel
theorem dL_law_465 : decode cL_law 465 = .ok (.aload_n 0, 1) := by decide +kernel
theorem dL_law_466 : decode cL_law 466 = .ok (.iload 4, 2) := by decide +kernel
theorem dL_law_468 : decode cL_law 468 = .ok (.iconst 1, 1) := by decide +kernel
theorem dL_law_469 : decode cL_law 469 = .ok (.iadd, 1) := by decide +kernel
theorem dL_law_470 : decode cL_law 470 = .ok (.iaload, 1) := by decide +kernel
theorem dL_law_471 : decode cL_law 471 = .ok (.aload_n 0, 1) := by decide +kernel
theorem dL_law_472 : decode cL_law 472 = .ok (.iload 4, 2) := by decide +kernel
theorem dL_law_474 : decode cL_law 474 = .ok (.iconst 2, 1) := by decide +kernel
theorem dL_law_475 : decode cL_law 475 = .ok (.iadd, 1) := by decide +kernel
theorem dL_law_476 : decode cL_law 476 = .ok (.iaload, 1) := by decide +kernel
theorem dL_law_477 : decode cL_law 477 = .ok (.invokevirtual 59, 3) := by decide +kernel
theorem dL_law_480 : decode cL_law 480 = .ok (.if_icmp .eq 781, 3) := by decide +kernel
theorem dL_law_483 : decode cL_law 483 = .ok (.iconst 0, 1) := by decide +kernel
theorem dL_law_484 : decode cL_law 484 = .ok (.ireturn, 1) := by decide +kernel
theorem dL_law_485 : decode cL_law 485 = .ok (.aload_n 1, 1) := by decide +kernel
theorem dL_law_486 : decode cL_law 486 = .ok (.aload_n 0, 1) := by decide +kernel
theorem dL_law_487 : decode cL_law 487 = .ok (.iload 4, 2) := by decide +kernel
theorem dL_law_489 : decode cL_law 489 = .ok (.iconst 1, 1) := by decide +kernel
theorem dL_law_490 : decode cL_law 490 = .ok (.iadd, 1) := by decide +kernel
theorem dL_law_491 : decode cL_law 491 = .ok (.iaload, 1) := by decide +kernel
theorem dL_law_492 : decode cL_law 492 = .ok (.invokevirtual 60, 3) := by decide +kernel
theorem dL_law_495 : decode cL_law 495 = .ok (.aload_n 2, 1) := by decide +kernel
theorem dL_law_496 : decode cL_law 496 = .ok (.aload_n 0, 1) := by decide +kernel
theorem dL_law_497 : decode cL_law 497 = .ok (.iload 4, 2) := by decide +kernel
theorem dL_law_499 : decode cL_law 499 = .ok (.iconst 1, 1) := by decide +kernel
theorem dL_law_500 : decode cL_law 500 = .ok (.iadd, 1) := by decide +kernel
theorem dL_law_501 : decode cL_law 501 = .ok (.iaload, 1) := by decide +kernel
theorem dL_law_502 : decode cL_law 502 = .ok (.invokevirtual 64, 3) := by decide +kernel
theorem dL_law_505 : decode cL_law 505 = .ok (.if_icmp .eq 756, 3) := by decide +kernel
theorem dL_law_508 : decode cL_law 508 = .ok (.iconst 0, 1) := by decide +kernel
theorem dL_law_509 : decode cL_law 509 = .ok (.ireturn, 1) := by decide +kernel
theorem dL_law_510 : decode cL_law 510 = .ok (.aload_n 1, 1) := by decide +kernel
theorem dL_law_511 : decode cL_law 511 = .ok (.aload_n 0, 1) := by decide +kernel
theorem dL_law_512 : decode cL_law 512 = .ok (.iload 4, 2) := by decide +kernel
theorem dL_law_514 : decode cL_law 514 = .ok (.iconst 1, 1) := by decide +kernel
theorem dL_law_515 : decode cL_law 515 = .ok (.iadd, 1) := by decide +kernel
theorem dL_law_516 : decode cL_law 516 = .ok (.iaload, 1) := by decide +kernel
theorem dL_law_517 : decode cL_law 517 = .ok (.aload_n 0, 1) := by decide +kernel
theorem dL_law_518 : decode cL_law 518 = .ok (.iload 4, 2) := by decide +kernel
theorem dL_law_520 : decode cL_law 520 = .ok (.iconst 2, 1) := by decide +kernel
theorem dL_law_521 : decode cL_law 521 = .ok (.iadd, 1) := by decide +kernel
theorem dL_law_522 : decode cL_law 522 = .ok (.iaload, 1) := by decide +kernel
theorem dL_law_523 : decode cL_law 523 = .ok (.invokevirtual 65, 3) := by decide +kernel
theorem dL_law_526 : decode cL_law 526 = .ok (.aload_n 2, 1) := by decide +kernel
theorem dL_law_527 : decode cL_law 527 = .ok (.aload_n 0, 1) := by decide +kernel
theorem dL_law_528 : decode cL_law 528 = .ok (.iload 4, 2) := by decide +kernel
theorem dL_law_530 : decode cL_law 530 = .ok (.iconst 1, 1) := by decide +kernel
theorem dL_law_531 : decode cL_law 531 = .ok (.iadd, 1) := by decide +kernel
theorem dL_law_532 : decode cL_law 532 = .ok (.iaload, 1) := by decide +kernel
theorem dL_law_533 : decode cL_law 533 = .ok (.aload_n 0, 1) := by decide +kernel
theorem dL_law_534 : decode cL_law 534 = .ok (.iload 4, 2) := by decide +kernel
theorem dL_law_536 : decode cL_law 536 = .ok (.iconst 2, 1) := by decide +kernel
theorem dL_law_537 : decode cL_law 537 = .ok (.iadd, 1) := by decide +kernel
theorem dL_law_538 : decode cL_law 538 = .ok (.iaload, 1) := by decide +kernel
theorem dL_law_539 : decode cL_law 539 = .ok (.invokevirtual 68, 3) := by decide +kernel
theorem dL_law_542 : decode cL_law 542 = .ok (.if_icmp .eq 719, 3) := by decide +kernel
theorem dL_law_545 : decode cL_law 545 = .ok (.iconst 0, 1) := by decide +kernel
theorem dL_law_546 : decode cL_law 546 = .ok (.ireturn, 1) := by decide +kernel
theorem dL_law_547 : decode cL_law 547 = .ok (.aload_n 1, 1) := by decide +kernel
theorem dL_law_548 : decode cL_law 548 = .ok (.aload_n 0, 1) := by decide +kernel
theorem dL_law_549 : decode cL_law 549 = .ok (.iload 4, 2) := by decide +kernel
theorem dL_law_551 : decode cL_law 551 = .ok (.iconst 1, 1) := by decide +kernel
theorem dL_law_552 : decode cL_law 552 = .ok (.iadd, 1) := by decide +kernel
theorem dL_law_553 : decode cL_law 553 = .ok (.iaload, 1) := by decide +kernel
theorem dL_law_554 : decode cL_law 554 = .ok (.invokevirtual 69, 3) := by decide +kernel
theorem dL_law_557 : decode cL_law 557 = .ok (.aload_n 2, 1) := by decide +kernel
theorem dL_law_558 : decode cL_law 558 = .ok (.aload_n 0, 1) := by decide +kernel
theorem dL_law_559 : decode cL_law 559 = .ok (.iload 4, 2) := by decide +kernel
theorem dL_law_561 : decode cL_law 561 = .ok (.iconst 1, 1) := by decide +kernel
theorem dL_law_562 : decode cL_law 562 = .ok (.iadd, 1) := by decide +kernel
theorem dL_law_563 : decode cL_law 563 = .ok (.iaload, 1) := by decide +kernel
theorem dL_law_564 : decode cL_law 564 = .ok (.invokevirtual 72, 3) := by decide +kernel
theorem dL_law_567 : decode cL_law 567 = .ok (.if_icmp .eq 694, 3) := by decide +kernel
theorem dL_law_570 : decode cL_law 570 = .ok (.iconst 0, 1) := by decide +kernel
theorem dL_law_571 : decode cL_law 571 = .ok (.ireturn, 1) := by decide +kernel
theorem dL_law_572 : decode cL_law 572 = .ok (.aload_n 1, 1) := by decide +kernel
theorem dL_law_573 : decode cL_law 573 = .ok (.aload_n 0, 1) := by decide +kernel
theorem dL_law_574 : decode cL_law 574 = .ok (.iload 4, 2) := by decide +kernel
theorem dL_law_576 : decode cL_law 576 = .ok (.iconst 1, 1) := by decide +kernel
theorem dL_law_577 : decode cL_law 577 = .ok (.iadd, 1) := by decide +kernel
theorem dL_law_578 : decode cL_law 578 = .ok (.iaload, 1) := by decide +kernel
theorem dL_law_579 : decode cL_law 579 = .ok (.invokevirtual 73, 3) := by decide +kernel
theorem dL_law_582 : decode cL_law 582 = .ok (.aload_n 2, 1) := by decide +kernel
theorem dL_law_583 : decode cL_law 583 = .ok (.aload_n 0, 1) := by decide +kernel
theorem dL_law_584 : decode cL_law 584 = .ok (.iload 4, 2) := by decide +kernel
theorem dL_law_586 : decode cL_law 586 = .ok (.iconst 1, 1) := by decide +kernel
theorem dL_law_587 : decode cL_law 587 = .ok (.iadd, 1) := by decide +kernel
theorem dL_law_588 : decode cL_law 588 = .ok (.iaload, 1) := by decide +kernel
theorem dL_law_589 : decode cL_law 589 = .ok (.invokevirtual 76, 3) := by decide +kernel
theorem dL_law_592 : decode cL_law 592 = .ok (.if_icmp .eq 669, 3) := by decide +kernel
theorem dL_law_595 : decode cL_law 595 = .ok (.iconst 0, 1) := by decide +kernel
theorem dL_law_596 : decode cL_law 596 = .ok (.ireturn, 1) := by decide +kernel
theorem dL_law_597 : decode cL_law 597 = .ok (.aload_n 1, 1) := by decide +kernel
theorem dL_law_598 : decode cL_law 598 = .ok (.aload_n 0, 1) := by decide +kernel
theorem dL_law_599 : decode cL_law 599 = .ok (.iload 4, 2) := by decide +kernel
theorem dL_law_601 : decode cL_law 601 = .ok (.iconst 1, 1) := by decide +kernel
theorem dL_law_602 : decode cL_law 602 = .ok (.iadd, 1) := by decide +kernel
theorem dL_law_603 : decode cL_law 603 = .ok (.iaload, 1) := by decide +kernel
theorem dL_law_604 : decode cL_law 604 = .ok (.aload_n 0, 1) := by decide +kernel
theorem dL_law_605 : decode cL_law 605 = .ok (.iload 4, 2) := by decide +kernel
theorem dL_law_607 : decode cL_law 607 = .ok (.iconst 2, 1) := by decide +kernel
theorem dL_law_608 : decode cL_law 608 = .ok (.iadd, 1) := by decide +kernel
theorem dL_law_609 : decode cL_law 609 = .ok (.iaload, 1) := by decide +kernel
theorem dL_law_610 : decode cL_law 610 = .ok (.aload_n 3, 1) := by decide +kernel
theorem dL_law_611 : decode cL_law 611 = .ok (.invokestatic 77, 3) := by decide +kernel
theorem dL_law_614 : decode cL_law 614 = .ok (.istore 5, 2) := by decide +kernel
theorem dL_law_616 : decode cL_law 616 = .ok (.aload_n 2, 1) := by decide +kernel
theorem dL_law_617 : decode cL_law 617 = .ok (.aload_n 0, 1) := by decide +kernel
theorem dL_law_618 : decode cL_law 618 = .ok (.iload 4, 2) := by decide +kernel
theorem dL_law_620 : decode cL_law 620 = .ok (.iconst 1, 1) := by decide +kernel
theorem dL_law_621 : decode cL_law 621 = .ok (.iadd, 1) := by decide +kernel
theorem dL_law_622 : decode cL_law 622 = .ok (.iaload, 1) := by decide +kernel
theorem dL_law_623 : decode cL_law 623 = .ok (.aload_n 0, 1) := by decide +kernel
theorem dL_law_624 : decode cL_law 624 = .ok (.iload 4, 2) := by decide +kernel
theorem dL_law_626 : decode cL_law 626 = .ok (.iconst 2, 1) := by decide +kernel
theorem dL_law_627 : decode cL_law 627 = .ok (.iadd, 1) := by decide +kernel
theorem dL_law_628 : decode cL_law 628 = .ok (.iaload, 1) := by decide +kernel
theorem dL_law_629 : decode cL_law 629 = .ok (.invokevirtual 82, 3) := by decide +kernel
theorem dL_law_632 : decode cL_law 632 = .ok (.istore 6, 2) := by decide +kernel
theorem dL_law_634 : decode cL_law 634 = .ok (.aload_n 2, 1) := by decide +kernel
theorem dL_law_635 : decode cL_law 635 = .ok (.invokevirtual 83, 3) := by decide +kernel
theorem dL_law_638 : decode cL_law 638 = .ok (.iload 5, 2) := by decide +kernel
theorem dL_law_640 : decode cL_law 640 = .ok (.if_icmp .eq 5, 3) := by decide +kernel
theorem dL_law_643 : decode cL_law 643 = .ok (.iconst 0, 1) := by decide +kernel
theorem dL_law_644 : decode cL_law 644 = .ok (.ireturn, 1) := by decide +kernel
theorem dL_law_645 : decode cL_law 645 = .ok (.iload 5, 2) := by decide +kernel
theorem dL_law_647 : decode cL_law 647 = .ok (.ifCond .ne 15, 3) := by decide +kernel
theorem dL_law_650 : decode cL_law 650 = .ok (.aload_n 3, 1) := by decide +kernel
theorem dL_law_651 : decode cL_law 651 = .ok (.iconst 0, 1) := by decide +kernel
theorem dL_law_652 : decode cL_law 652 = .ok (.laload, 1) := by decide +kernel
theorem dL_law_653 : decode cL_law 653 = .ok (.iload 6, 2) := by decide +kernel
theorem dL_law_655 : decode cL_law 655 = .ok (.i2l, 1) := by decide +kernel
theorem dL_law_656 : decode cL_law 656 = .ok (.lcmp, 1) := by decide +kernel
theorem dL_law_657 : decode cL_law 657 = .ok (.ifCond .eq 5, 3) := by decide +kernel
theorem dL_law_660 : decode cL_law 660 = .ok (.iconst 0, 1) := by decide +kernel
theorem dL_law_661 : decode cL_law 661 = .ok (.ireturn, 1) := by decide +kernel
theorem dL_law_662 : decode cL_law 662 = .ok (.goto 599, 3) := by decide +kernel
theorem dL_law_665 : decode cL_law 665 = .ok (.aload_n 1, 1) := by decide +kernel
theorem dL_law_666 : decode cL_law 666 = .ok (.aload_n 0, 1) := by decide +kernel
theorem dL_law_667 : decode cL_law 667 = .ok (.iload 4, 2) := by decide +kernel
theorem dL_law_669 : decode cL_law 669 = .ok (.iconst 1, 1) := by decide +kernel
theorem dL_law_670 : decode cL_law 670 = .ok (.iadd, 1) := by decide +kernel
theorem dL_law_671 : decode cL_law 671 = .ok (.iaload, 1) := by decide +kernel
theorem dL_law_672 : decode cL_law 672 = .ok (.aload_n 0, 1) := by decide +kernel
theorem dL_law_673 : decode cL_law 673 = .ok (.iload 4, 2) := by decide +kernel
theorem dL_law_675 : decode cL_law 675 = .ok (.iconst 2, 1) := by decide +kernel
theorem dL_law_676 : decode cL_law 676 = .ok (.iadd, 1) := by decide +kernel
theorem dL_law_677 : decode cL_law 677 = .ok (.iaload, 1) := by decide +kernel
theorem dL_law_678 : decode cL_law 678 = .ok (.invokevirtual 86, 3) := by decide +kernel
theorem dL_law_681 : decode cL_law 681 = .ok (.aload_n 2, 1) := by decide +kernel
theorem dL_law_682 : decode cL_law 682 = .ok (.aload_n 0, 1) := by decide +kernel
theorem dL_law_683 : decode cL_law 683 = .ok (.iload 4, 2) := by decide +kernel
theorem dL_law_685 : decode cL_law 685 = .ok (.iconst 1, 1) := by decide +kernel
theorem dL_law_686 : decode cL_law 686 = .ok (.iadd, 1) := by decide +kernel
theorem dL_law_687 : decode cL_law 687 = .ok (.iaload, 1) := by decide +kernel
theorem dL_law_688 : decode cL_law 688 = .ok (.aload_n 0, 1) := by decide +kernel
theorem dL_law_689 : decode cL_law 689 = .ok (.iload 4, 2) := by decide +kernel
theorem dL_law_691 : decode cL_law 691 = .ok (.iconst 2, 1) := by decide +kernel
theorem dL_law_692 : decode cL_law 692 = .ok (.iadd, 1) := by decide +kernel
theorem dL_law_693 : decode cL_law 693 = .ok (.iaload, 1) := by decide +kernel
theorem dL_law_694 : decode cL_law 694 = .ok (.invokevirtual 89, 3) := by decide +kernel
theorem dL_law_697 : decode cL_law 697 = .ok (.if_icmp .eq 564, 3) := by decide +kernel
theorem dL_law_700 : decode cL_law 700 = .ok (.iconst 0, 1) := by decide +kernel
theorem dL_law_701 : decode cL_law 701 = .ok (.ireturn, 1) := by decide +kernel
theorem dL_law_702 : decode cL_law 702 = .ok (.aload_n 1, 1) := by decide +kernel
theorem dL_law_703 : decode cL_law 703 = .ok (.aload_n 0, 1) := by decide +kernel
theorem dL_law_704 : decode cL_law 704 = .ok (.iload 4, 2) := by decide +kernel
theorem dL_law_706 : decode cL_law 706 = .ok (.iconst 1, 1) := by decide +kernel
theorem dL_law_707 : decode cL_law 707 = .ok (.iadd, 1) := by decide +kernel
theorem dL_law_708 : decode cL_law 708 = .ok (.iaload, 1) := by decide +kernel
theorem dL_law_709 : decode cL_law 709 = .ok (.aload_n 0, 1) := by decide +kernel
theorem dL_law_710 : decode cL_law 710 = .ok (.iload 4, 2) := by decide +kernel
theorem dL_law_712 : decode cL_law 712 = .ok (.iconst 2, 1) := by decide +kernel
theorem dL_law_713 : decode cL_law 713 = .ok (.iadd, 1) := by decide +kernel
theorem dL_law_714 : decode cL_law 714 = .ok (.iaload, 1) := by decide +kernel
theorem dL_law_715 : decode cL_law 715 = .ok (.invokevirtual 90, 3) := by decide +kernel
theorem dL_law_718 : decode cL_law 718 = .ok (.aload_n 2, 1) := by decide +kernel
theorem dL_law_719 : decode cL_law 719 = .ok (.aload_n 0, 1) := by decide +kernel
theorem dL_law_720 : decode cL_law 720 = .ok (.iload 4, 2) := by decide +kernel
theorem dL_law_722 : decode cL_law 722 = .ok (.iconst 1, 1) := by decide +kernel
theorem dL_law_723 : decode cL_law 723 = .ok (.iadd, 1) := by decide +kernel
theorem dL_law_724 : decode cL_law 724 = .ok (.iaload, 1) := by decide +kernel
theorem dL_law_725 : decode cL_law 725 = .ok (.aload_n 0, 1) := by decide +kernel
theorem dL_law_726 : decode cL_law 726 = .ok (.iload 4, 2) := by decide +kernel
theorem dL_law_728 : decode cL_law 728 = .ok (.iconst 2, 1) := by decide +kernel
theorem dL_law_729 : decode cL_law 729 = .ok (.iadd, 1) := by decide +kernel
theorem dL_law_730 : decode cL_law 730 = .ok (.iaload, 1) := by decide +kernel
theorem dL_law_731 : decode cL_law 731 = .ok (.invokevirtual 93, 3) := by decide +kernel
theorem dL_law_734 : decode cL_law 734 = .ok (.if_icmp .eq 527, 3) := by decide +kernel
theorem dL_law_737 : decode cL_law 737 = .ok (.iconst 0, 1) := by decide +kernel
theorem dL_law_738 : decode cL_law 738 = .ok (.ireturn, 1) := by decide +kernel
theorem dL_law_739 : decode cL_law 739 = .ok (.aload_n 1, 1) := by decide +kernel
theorem dL_law_740 : decode cL_law 740 = .ok (.aload_n 0, 1) := by decide +kernel
theorem dL_law_741 : decode cL_law 741 = .ok (.iload 4, 2) := by decide +kernel
theorem dL_law_743 : decode cL_law 743 = .ok (.iconst 1, 1) := by decide +kernel
theorem dL_law_744 : decode cL_law 744 = .ok (.iadd, 1) := by decide +kernel
theorem dL_law_745 : decode cL_law 745 = .ok (.iaload, 1) := by decide +kernel
theorem dL_law_746 : decode cL_law 746 = .ok (.aload_n 0, 1) := by decide +kernel
theorem dL_law_747 : decode cL_law 747 = .ok (.iload 4, 2) := by decide +kernel
theorem dL_law_749 : decode cL_law 749 = .ok (.iconst 2, 1) := by decide +kernel
theorem dL_law_750 : decode cL_law 750 = .ok (.iadd, 1) := by decide +kernel
theorem dL_law_751 : decode cL_law 751 = .ok (.iaload, 1) := by decide +kernel
theorem dL_law_752 : decode cL_law 752 = .ok (.invokevirtual 94, 3) := by decide +kernel
theorem dL_law_755 : decode cL_law 755 = .ok (.aload_n 2, 1) := by decide +kernel
theorem dL_law_756 : decode cL_law 756 = .ok (.aload_n 0, 1) := by decide +kernel
theorem dL_law_757 : decode cL_law 757 = .ok (.iload 4, 2) := by decide +kernel
theorem dL_law_759 : decode cL_law 759 = .ok (.iconst 1, 1) := by decide +kernel
theorem dL_law_760 : decode cL_law 760 = .ok (.iadd, 1) := by decide +kernel
theorem dL_law_761 : decode cL_law 761 = .ok (.iaload, 1) := by decide +kernel
theorem dL_law_762 : decode cL_law 762 = .ok (.aload_n 0, 1) := by decide +kernel
theorem dL_law_763 : decode cL_law 763 = .ok (.iload 4, 2) := by decide +kernel
theorem dL_law_765 : decode cL_law 765 = .ok (.iconst 2, 1) := by decide +kernel
theorem dL_law_766 : decode cL_law 766 = .ok (.iadd, 1) := by decide +kernel
theorem dL_law_767 : decode cL_law 767 = .ok (.iaload, 1) := by decide +kernel
theorem dL_law_768 : decode cL_law 768 = .ok (.invokevirtual 97, 3) := by decide +kernel
theorem dL_law_771 : decode cL_law 771 = .ok (.if_icmp .eq 490, 3) := by decide +kernel
theorem dL_law_774 : decode cL_law 774 = .ok (.iconst 0, 1) := by decide +kernel
theorem dL_law_775 : decode cL_law 775 = .ok (.ireturn, 1) := by decide +kernel
theorem dL_law_776 : decode cL_law 776 = .ok (.aload_n 1, 1) := by decide +kernel
theorem dL_law_777 : decode cL_law 777 = .ok (.aload_n 0, 1) := by decide +kernel
theorem dL_law_778 : decode cL_law 778 = .ok (.iload 4, 2) := by decide +kernel
theorem dL_law_780 : decode cL_law 780 = .ok (.iconst 1, 1) := by decide +kernel
theorem dL_law_781 : decode cL_law 781 = .ok (.iadd, 1) := by decide +kernel
theorem dL_law_782 : decode cL_law 782 = .ok (.iaload, 1) := by decide +kernel
theorem dL_law_783 : decode cL_law 783 = .ok (.aload_n 0, 1) := by decide +kernel
theorem dL_law_784 : decode cL_law 784 = .ok (.iload 4, 2) := by decide +kernel
theorem dL_law_786 : decode cL_law 786 = .ok (.iconst 2, 1) := by decide +kernel
theorem dL_law_787 : decode cL_law 787 = .ok (.iadd, 1) := by decide +kernel
theorem dL_law_788 : decode cL_law 788 = .ok (.iaload, 1) := by decide +kernel
theorem dL_law_789 : decode cL_law 789 = .ok (.invokevirtual 98, 3) := by decide +kernel
theorem dL_law_792 : decode cL_law 792 = .ok (.aload_n 2, 1) := by decide +kernel
theorem dL_law_793 : decode cL_law 793 = .ok (.aload_n 0, 1) := by decide +kernel
theorem dL_law_794 : decode cL_law 794 = .ok (.iload 4, 2) := by decide +kernel
theorem dL_law_796 : decode cL_law 796 = .ok (.iconst 1, 1) := by decide +kernel
theorem dL_law_797 : decode cL_law 797 = .ok (.iadd, 1) := by decide +kernel
theorem dL_law_798 : decode cL_law 798 = .ok (.iaload, 1) := by decide +kernel
theorem dL_law_799 : decode cL_law 799 = .ok (.aload_n 0, 1) := by decide +kernel
theorem dL_law_800 : decode cL_law 800 = .ok (.iload 4, 2) := by decide +kernel
theorem dL_law_802 : decode cL_law 802 = .ok (.iconst 2, 1) := by decide +kernel
theorem dL_law_803 : decode cL_law 803 = .ok (.iadd, 1) := by decide +kernel
theorem dL_law_804 : decode cL_law 804 = .ok (.iaload, 1) := by decide +kernel
theorem dL_law_805 : decode cL_law 805 = .ok (.invokevirtual 101, 3) := by decide +kernel
theorem dL_law_808 : decode cL_law 808 = .ok (.if_icmp .eq 453, 3) := by decide +kernel
theorem dL_law_811 : decode cL_law 811 = .ok (.iconst 0, 1) := by decide +kernel
theorem dL_law_812 : decode cL_law 812 = .ok (.ireturn, 1) := by decide +kernel
theorem dL_law_813 : decode cL_law 813 = .ok (.aload_n 1, 1) := by decide +kernel
theorem dL_law_814 : decode cL_law 814 = .ok (.aload_n 0, 1) := by decide +kernel
theorem dL_law_815 : decode cL_law 815 = .ok (.iload 4, 2) := by decide +kernel
theorem dL_law_817 : decode cL_law 817 = .ok (.iconst 1, 1) := by decide +kernel
theorem dL_law_818 : decode cL_law 818 = .ok (.iadd, 1) := by decide +kernel
theorem dL_law_819 : decode cL_law 819 = .ok (.iaload, 1) := by decide +kernel
theorem dL_law_820 : decode cL_law 820 = .ok (.invokevirtual 102, 3) := by decide +kernel
theorem dL_law_823 : decode cL_law 823 = .ok (.aload_n 2, 1) := by decide +kernel
theorem dL_law_824 : decode cL_law 824 = .ok (.aload_n 0, 1) := by decide +kernel
theorem dL_law_825 : decode cL_law 825 = .ok (.iload 4, 2) := by decide +kernel
theorem dL_law_827 : decode cL_law 827 = .ok (.iconst 1, 1) := by decide +kernel
theorem dL_law_828 : decode cL_law 828 = .ok (.iadd, 1) := by decide +kernel
theorem dL_law_829 : decode cL_law 829 = .ok (.iaload, 1) := by decide +kernel
theorem dL_law_830 : decode cL_law 830 = .ok (.invokevirtual 105, 3) := by decide +kernel
theorem dL_law_833 : decode cL_law 833 = .ok (.if_icmp .eq 428, 3) := by decide +kernel
theorem dL_law_836 : decode cL_law 836 = .ok (.iconst 0, 1) := by decide +kernel
theorem dL_law_837 : decode cL_law 837 = .ok (.ireturn, 1) := by decide +kernel
theorem dL_law_838 : decode cL_law 838 = .ok (.aload_n 1, 1) := by decide +kernel
theorem dL_law_839 : decode cL_law 839 = .ok (.aload_n 0, 1) := by decide +kernel
theorem dL_law_840 : decode cL_law 840 = .ok (.iload 4, 2) := by decide +kernel
theorem dL_law_842 : decode cL_law 842 = .ok (.iconst 1, 1) := by decide +kernel
theorem dL_law_843 : decode cL_law 843 = .ok (.iadd, 1) := by decide +kernel
theorem dL_law_844 : decode cL_law 844 = .ok (.iaload, 1) := by decide +kernel
theorem dL_law_845 : decode cL_law 845 = .ok (.invokevirtual 106, 3) := by decide +kernel
theorem dL_law_848 : decode cL_law 848 = .ok (.aload_n 2, 1) := by decide +kernel
theorem dL_law_849 : decode cL_law 849 = .ok (.aload_n 0, 1) := by decide +kernel
theorem dL_law_850 : decode cL_law 850 = .ok (.iload 4, 2) := by decide +kernel
theorem dL_law_852 : decode cL_law 852 = .ok (.iconst 1, 1) := by decide +kernel
theorem dL_law_853 : decode cL_law 853 = .ok (.iadd, 1) := by decide +kernel
theorem dL_law_854 : decode cL_law 854 = .ok (.iaload, 1) := by decide +kernel
theorem dL_law_855 : decode cL_law 855 = .ok (.invokevirtual 109, 3) := by decide +kernel
theorem dL_law_858 : decode cL_law 858 = .ok (.if_icmp .eq 403, 3) := by decide +kernel
theorem dL_law_861 : decode cL_law 861 = .ok (.iconst 0, 1) := by decide +kernel
theorem dL_law_862 : decode cL_law 862 = .ok (.ireturn, 1) := by decide +kernel
theorem dL_law_863 : decode cL_law 863 = .ok (.aload_n 1, 1) := by decide +kernel
theorem dL_law_864 : decode cL_law 864 = .ok (.aload_n 0, 1) := by decide +kernel
theorem dL_law_865 : decode cL_law 865 = .ok (.iload 4, 2) := by decide +kernel
theorem dL_law_867 : decode cL_law 867 = .ok (.iconst 1, 1) := by decide +kernel
theorem dL_law_868 : decode cL_law 868 = .ok (.iadd, 1) := by decide +kernel
theorem dL_law_869 : decode cL_law 869 = .ok (.iaload, 1) := by decide +kernel
theorem dL_law_870 : decode cL_law 870 = .ok (.aload_n 0, 1) := by decide +kernel
theorem dL_law_871 : decode cL_law 871 = .ok (.iload 4, 2) := by decide +kernel
theorem dL_law_873 : decode cL_law 873 = .ok (.iconst 2, 1) := by decide +kernel
theorem dL_law_874 : decode cL_law 874 = .ok (.iadd, 1) := by decide +kernel
theorem dL_law_875 : decode cL_law 875 = .ok (.iaload, 1) := by decide +kernel
theorem dL_law_876 : decode cL_law 876 = .ok (.invokevirtual 110, 3) := by decide +kernel
theorem dL_law_879 : decode cL_law 879 = .ok (.aload_n 2, 1) := by decide +kernel
theorem dL_law_880 : decode cL_law 880 = .ok (.aload_n 0, 1) := by decide +kernel
theorem dL_law_881 : decode cL_law 881 = .ok (.iload 4, 2) := by decide +kernel
theorem dL_law_883 : decode cL_law 883 = .ok (.iconst 1, 1) := by decide +kernel
theorem dL_law_884 : decode cL_law 884 = .ok (.iadd, 1) := by decide +kernel
theorem dL_law_885 : decode cL_law 885 = .ok (.iaload, 1) := by decide +kernel
theorem dL_law_886 : decode cL_law 886 = .ok (.aload_n 0, 1) := by decide +kernel
theorem dL_law_887 : decode cL_law 887 = .ok (.iload 4, 2) := by decide +kernel
theorem dL_law_889 : decode cL_law 889 = .ok (.iconst 2, 1) := by decide +kernel
theorem dL_law_890 : decode cL_law 890 = .ok (.iadd, 1) := by decide +kernel
theorem dL_law_891 : decode cL_law 891 = .ok (.iaload, 1) := by decide +kernel
theorem dL_law_892 : decode cL_law 892 = .ok (.invokevirtual 113, 3) := by decide +kernel
theorem dL_law_895 : decode cL_law 895 = .ok (.if_icmp .eq 366, 3) := by decide +kernel
theorem dL_law_898 : decode cL_law 898 = .ok (.iconst 0, 1) := by decide +kernel
theorem dL_law_899 : decode cL_law 899 = .ok (.ireturn, 1) := by decide +kernel
theorem dL_law_900 : decode cL_law 900 = .ok (.aload_n 1, 1) := by decide +kernel
theorem dL_law_901 : decode cL_law 901 = .ok (.aload_n 0, 1) := by decide +kernel
theorem dL_law_902 : decode cL_law 902 = .ok (.iload 4, 2) := by decide +kernel
theorem dL_law_904 : decode cL_law 904 = .ok (.iconst 1, 1) := by decide +kernel
theorem dL_law_905 : decode cL_law 905 = .ok (.iadd, 1) := by decide +kernel
theorem dL_law_906 : decode cL_law 906 = .ok (.iaload, 1) := by decide +kernel
theorem dL_law_907 : decode cL_law 907 = .ok (.aload_n 0, 1) := by decide +kernel
theorem dL_law_908 : decode cL_law 908 = .ok (.iload 4, 2) := by decide +kernel
theorem dL_law_910 : decode cL_law 910 = .ok (.iconst 2, 1) := by decide +kernel
theorem dL_law_911 : decode cL_law 911 = .ok (.iadd, 1) := by decide +kernel
theorem dL_law_912 : decode cL_law 912 = .ok (.iaload, 1) := by decide +kernel
theorem dL_law_913 : decode cL_law 913 = .ok (.invokevirtual 114, 3) := by decide +kernel
theorem dL_law_916 : decode cL_law 916 = .ok (.aload_n 2, 1) := by decide +kernel
theorem dL_law_917 : decode cL_law 917 = .ok (.aload_n 0, 1) := by decide +kernel
theorem dL_law_918 : decode cL_law 918 = .ok (.iload 4, 2) := by decide +kernel
theorem dL_law_920 : decode cL_law 920 = .ok (.iconst 1, 1) := by decide +kernel
theorem dL_law_921 : decode cL_law 921 = .ok (.iadd, 1) := by decide +kernel
theorem dL_law_922 : decode cL_law 922 = .ok (.iaload, 1) := by decide +kernel
theorem dL_law_923 : decode cL_law 923 = .ok (.aload_n 0, 1) := by decide +kernel
theorem dL_law_924 : decode cL_law 924 = .ok (.iload 4, 2) := by decide +kernel
theorem dL_law_926 : decode cL_law 926 = .ok (.iconst 2, 1) := by decide +kernel
theorem dL_law_927 : decode cL_law 927 = .ok (.iadd, 1) := by decide +kernel
theorem dL_law_928 : decode cL_law 928 = .ok (.iaload, 1) := by decide +kernel
theorem dL_law_929 : decode cL_law 929 = .ok (.invokevirtual 117, 3) := by decide +kernel
theorem dL_law_932 : decode cL_law 932 = .ok (.if_icmp .eq 329, 3) := by decide +kernel
theorem dL_law_935 : decode cL_law 935 = .ok (.iconst 0, 1) := by decide +kernel
theorem dL_law_936 : decode cL_law 936 = .ok (.ireturn, 1) := by decide +kernel
theorem dL_law_937 : decode cL_law 937 = .ok (.aload_n 1, 1) := by decide +kernel
theorem dL_law_938 : decode cL_law 938 = .ok (.aload_n 0, 1) := by decide +kernel
theorem dL_law_939 : decode cL_law 939 = .ok (.iload 4, 2) := by decide +kernel
theorem dL_law_941 : decode cL_law 941 = .ok (.iconst 1, 1) := by decide +kernel
theorem dL_law_942 : decode cL_law 942 = .ok (.iadd, 1) := by decide +kernel
theorem dL_law_943 : decode cL_law 943 = .ok (.iaload, 1) := by decide +kernel
theorem dL_law_944 : decode cL_law 944 = .ok (.aload_n 0, 1) := by decide +kernel
theorem dL_law_945 : decode cL_law 945 = .ok (.iload 4, 2) := by decide +kernel
theorem dL_law_947 : decode cL_law 947 = .ok (.iconst 2, 1) := by decide +kernel
theorem dL_law_948 : decode cL_law 948 = .ok (.iadd, 1) := by decide +kernel
theorem dL_law_949 : decode cL_law 949 = .ok (.iaload, 1) := by decide +kernel
theorem dL_law_950 : decode cL_law 950 = .ok (.aload_n 0, 1) := by decide +kernel
theorem dL_law_951 : decode cL_law 951 = .ok (.iload 4, 2) := by decide +kernel
theorem dL_law_953 : decode cL_law 953 = .ok (.iconst 3, 1) := by decide +kernel
theorem dL_law_954 : decode cL_law 954 = .ok (.iadd, 1) := by decide +kernel
theorem dL_law_955 : decode cL_law 955 = .ok (.iaload, 1) := by decide +kernel
theorem dL_law_956 : decode cL_law 956 = .ok (.aload_n 0, 1) := by decide +kernel
theorem dL_law_957 : decode cL_law 957 = .ok (.iload 4, 2) := by decide +kernel
theorem dL_law_959 : decode cL_law 959 = .ok (.iconst 4, 1) := by decide +kernel
theorem dL_law_960 : decode cL_law 960 = .ok (.iadd, 1) := by decide +kernel
theorem dL_law_961 : decode cL_law 961 = .ok (.iaload, 1) := by decide +kernel
theorem dL_law_962 : decode cL_law 962 = .ok (.ifCond .eq 7, 3) := by decide +kernel
theorem dL_law_965 : decode cL_law 965 = .ok (.iconst 1, 1) := by decide +kernel
theorem dL_law_966 : decode cL_law 966 = .ok (.goto 4, 3) := by decide +kernel
theorem dL_law_969 : decode cL_law 969 = .ok (.iconst 0, 1) := by decide +kernel
theorem dL_law_970 : decode cL_law 970 = .ok (.invokevirtual 118, 3) := by decide +kernel
theorem dL_law_973 : decode cL_law 973 = .ok (.aload_n 2, 1) := by decide +kernel
theorem dL_law_974 : decode cL_law 974 = .ok (.aload_n 0, 1) := by decide +kernel
theorem dL_law_975 : decode cL_law 975 = .ok (.iload 4, 2) := by decide +kernel
theorem dL_law_977 : decode cL_law 977 = .ok (.iconst 1, 1) := by decide +kernel
theorem dL_law_978 : decode cL_law 978 = .ok (.iadd, 1) := by decide +kernel
theorem dL_law_979 : decode cL_law 979 = .ok (.iaload, 1) := by decide +kernel
theorem dL_law_980 : decode cL_law 980 = .ok (.aload_n 0, 1) := by decide +kernel
theorem dL_law_981 : decode cL_law 981 = .ok (.iload 4, 2) := by decide +kernel
theorem dL_law_983 : decode cL_law 983 = .ok (.iconst 2, 1) := by decide +kernel
theorem dL_law_984 : decode cL_law 984 = .ok (.iadd, 1) := by decide +kernel
theorem dL_law_985 : decode cL_law 985 = .ok (.iaload, 1) := by decide +kernel
theorem dL_law_986 : decode cL_law 986 = .ok (.aload_n 0, 1) := by decide +kernel
theorem dL_law_987 : decode cL_law 987 = .ok (.iload 4, 2) := by decide +kernel
theorem dL_law_989 : decode cL_law 989 = .ok (.iconst 3, 1) := by decide +kernel
theorem dL_law_990 : decode cL_law 990 = .ok (.iadd, 1) := by decide +kernel
theorem dL_law_991 : decode cL_law 991 = .ok (.iaload, 1) := by decide +kernel
theorem dL_law_992 : decode cL_law 992 = .ok (.aload_n 0, 1) := by decide +kernel
theorem dL_law_993 : decode cL_law 993 = .ok (.iload 4, 2) := by decide +kernel
theorem dL_law_995 : decode cL_law 995 = .ok (.iconst 4, 1) := by decide +kernel
theorem dL_law_996 : decode cL_law 996 = .ok (.iadd, 1) := by decide +kernel
theorem dL_law_997 : decode cL_law 997 = .ok (.iaload, 1) := by decide +kernel
theorem dL_law_998 : decode cL_law 998 = .ok (.ifCond .eq 7, 3) := by decide +kernel
theorem dL_law_1001 : decode cL_law 1001 = .ok (.iconst 1, 1) := by decide +kernel
theorem dL_law_1002 : decode cL_law 1002 = .ok (.goto 4, 3) := by decide +kernel
theorem dL_law_1005 : decode cL_law 1005 = .ok (.iconst 0, 1) := by decide +kernel
theorem dL_law_1006 : decode cL_law 1006 = .ok (.invokevirtual 122, 3) := by decide +kernel
theorem dL_law_1009 : decode cL_law 1009 = .ok (.if_icmp .eq 252, 3) := by decide +kernel
theorem dL_law_1012 : decode cL_law 1012 = .ok (.iconst 0, 1) := by decide +kernel
theorem dL_law_1013 : decode cL_law 1013 = .ok (.ireturn, 1) := by decide +kernel
theorem dL_law_1014 : decode cL_law 1014 = .ok (.aload_n 1, 1) := by decide +kernel
theorem dL_law_1015 : decode cL_law 1015 = .ok (.aload_n 0, 1) := by decide +kernel
theorem dL_law_1016 : decode cL_law 1016 = .ok (.iload 4, 2) := by decide +kernel
theorem dL_law_1018 : decode cL_law 1018 = .ok (.iconst 1, 1) := by decide +kernel
theorem dL_law_1019 : decode cL_law 1019 = .ok (.iadd, 1) := by decide +kernel
theorem dL_law_1020 : decode cL_law 1020 = .ok (.iaload, 1) := by decide +kernel
theorem dL_law_1021 : decode cL_law 1021 = .ok (.invokevirtual 123, 3) := by decide +kernel
theorem dL_law_1024 : decode cL_law 1024 = .ok (.aload_n 2, 1) := by decide +kernel
theorem dL_law_1025 : decode cL_law 1025 = .ok (.aload_n 0, 1) := by decide +kernel
theorem dL_law_1026 : decode cL_law 1026 = .ok (.iload 4, 2) := by decide +kernel
theorem dL_law_1028 : decode cL_law 1028 = .ok (.iconst 1, 1) := by decide +kernel
theorem dL_law_1029 : decode cL_law 1029 = .ok (.iadd, 1) := by decide +kernel
theorem dL_law_1030 : decode cL_law 1030 = .ok (.iaload, 1) := by decide +kernel
theorem dL_law_1031 : decode cL_law 1031 = .ok (.invokevirtual 126, 3) := by decide +kernel
theorem dL_law_1034 : decode cL_law 1034 = .ok (.if_icmp .eq 227, 3) := by decide +kernel
theorem dL_law_1037 : decode cL_law 1037 = .ok (.iconst 0, 1) := by decide +kernel
theorem dL_law_1038 : decode cL_law 1038 = .ok (.ireturn, 1) := by decide +kernel
theorem dL_law_1039 : decode cL_law 1039 = .ok (.aload_n 1, 1) := by decide +kernel
theorem dL_law_1040 : decode cL_law 1040 = .ok (.aload_n 0, 1) := by decide +kernel
theorem dL_law_1041 : decode cL_law 1041 = .ok (.iload 4, 2) := by decide +kernel
theorem dL_law_1043 : decode cL_law 1043 = .ok (.iconst 1, 1) := by decide +kernel
theorem dL_law_1044 : decode cL_law 1044 = .ok (.iadd, 1) := by decide +kernel
theorem dL_law_1045 : decode cL_law 1045 = .ok (.iaload, 1) := by decide +kernel
theorem dL_law_1046 : decode cL_law 1046 = .ok (.invokevirtual 127, 3) := by decide +kernel
theorem dL_law_1049 : decode cL_law 1049 = .ok (.aload_n 2, 1) := by decide +kernel
theorem dL_law_1050 : decode cL_law 1050 = .ok (.aload_n 0, 1) := by decide +kernel
theorem dL_law_1051 : decode cL_law 1051 = .ok (.iload 4, 2) := by decide +kernel
theorem dL_law_1053 : decode cL_law 1053 = .ok (.iconst 1, 1) := by decide +kernel
theorem dL_law_1054 : decode cL_law 1054 = .ok (.iadd, 1) := by decide +kernel
theorem dL_law_1055 : decode cL_law 1055 = .ok (.iaload, 1) := by decide +kernel
theorem dL_law_1056 : decode cL_law 1056 = .ok (.invokevirtual 130, 3) := by decide +kernel
theorem dL_law_1059 : decode cL_law 1059 = .ok (.if_icmp .eq 202, 3) := by decide +kernel
theorem dL_law_1062 : decode cL_law 1062 = .ok (.iconst 0, 1) := by decide +kernel
theorem dL_law_1063 : decode cL_law 1063 = .ok (.ireturn, 1) := by decide +kernel
theorem dL_law_1064 : decode cL_law 1064 = .ok (.aload_n 1, 1) := by decide +kernel
theorem dL_law_1065 : decode cL_law 1065 = .ok (.aload_n 0, 1) := by decide +kernel
theorem dL_law_1066 : decode cL_law 1066 = .ok (.iload 4, 2) := by decide +kernel
theorem dL_law_1068 : decode cL_law 1068 = .ok (.iconst 1, 1) := by decide +kernel
theorem dL_law_1069 : decode cL_law 1069 = .ok (.iadd, 1) := by decide +kernel
theorem dL_law_1070 : decode cL_law 1070 = .ok (.iaload, 1) := by decide +kernel
theorem dL_law_1071 : decode cL_law 1071 = .ok (.aload_n 0, 1) := by decide +kernel
theorem dL_law_1072 : decode cL_law 1072 = .ok (.iload 4, 2) := by decide +kernel
theorem dL_law_1074 : decode cL_law 1074 = .ok (.iconst 2, 1) := by decide +kernel
theorem dL_law_1075 : decode cL_law 1075 = .ok (.iadd, 1) := by decide +kernel
theorem dL_law_1076 : decode cL_law 1076 = .ok (.iaload, 1) := by decide +kernel
theorem dL_law_1077 : decode cL_law 1077 = .ok (.aload_n 0, 1) := by decide +kernel
theorem dL_law_1078 : decode cL_law 1078 = .ok (.iload 4, 2) := by decide +kernel
theorem dL_law_1080 : decode cL_law 1080 = .ok (.iconst 3, 1) := by decide +kernel
theorem dL_law_1081 : decode cL_law 1081 = .ok (.iadd, 1) := by decide +kernel
theorem dL_law_1082 : decode cL_law 1082 = .ok (.iaload, 1) := by decide +kernel
theorem dL_law_1083 : decode cL_law 1083 = .ok (.invokevirtual 131, 3) := by decide +kernel
theorem dL_law_1086 : decode cL_law 1086 = .ok (.aload_n 2, 1) := by decide +kernel
theorem dL_law_1087 : decode cL_law 1087 = .ok (.aload_n 0, 1) := by decide +kernel
theorem dL_law_1088 : decode cL_law 1088 = .ok (.iload 4, 2) := by decide +kernel
theorem dL_law_1090 : decode cL_law 1090 = .ok (.iconst 1, 1) := by decide +kernel
theorem dL_law_1091 : decode cL_law 1091 = .ok (.iadd, 1) := by decide +kernel
theorem dL_law_1092 : decode cL_law 1092 = .ok (.iaload, 1) := by decide +kernel
theorem dL_law_1093 : decode cL_law 1093 = .ok (.aload_n 0, 1) := by decide +kernel
theorem dL_law_1094 : decode cL_law 1094 = .ok (.iload 4, 2) := by decide +kernel
theorem dL_law_1096 : decode cL_law 1096 = .ok (.iconst 2, 1) := by decide +kernel
theorem dL_law_1097 : decode cL_law 1097 = .ok (.iadd, 1) := by decide +kernel
theorem dL_law_1098 : decode cL_law 1098 = .ok (.iaload, 1) := by decide +kernel
theorem dL_law_1099 : decode cL_law 1099 = .ok (.aload_n 0, 1) := by decide +kernel
theorem dL_law_1100 : decode cL_law 1100 = .ok (.iload 4, 2) := by decide +kernel
theorem dL_law_1102 : decode cL_law 1102 = .ok (.iconst 3, 1) := by decide +kernel
theorem dL_law_1103 : decode cL_law 1103 = .ok (.iadd, 1) := by decide +kernel
theorem dL_law_1104 : decode cL_law 1104 = .ok (.iaload, 1) := by decide +kernel
theorem dL_law_1105 : decode cL_law 1105 = .ok (.invokevirtual 134, 3) := by decide +kernel
theorem dL_law_1108 : decode cL_law 1108 = .ok (.if_icmp .eq 153, 3) := by decide +kernel
theorem dL_law_1111 : decode cL_law 1111 = .ok (.iconst 0, 1) := by decide +kernel
theorem dL_law_1112 : decode cL_law 1112 = .ok (.ireturn, 1) := by decide +kernel
theorem dL_law_1113 : decode cL_law 1113 = .ok (.aload_n 1, 1) := by decide +kernel
theorem dL_law_1114 : decode cL_law 1114 = .ok (.aload_n 0, 1) := by decide +kernel
theorem dL_law_1115 : decode cL_law 1115 = .ok (.iload 4, 2) := by decide +kernel
theorem dL_law_1117 : decode cL_law 1117 = .ok (.iconst 1, 1) := by decide +kernel
theorem dL_law_1118 : decode cL_law 1118 = .ok (.iadd, 1) := by decide +kernel
theorem dL_law_1119 : decode cL_law 1119 = .ok (.iaload, 1) := by decide +kernel
theorem dL_law_1120 : decode cL_law 1120 = .ok (.aload_n 0, 1) := by decide +kernel
theorem dL_law_1121 : decode cL_law 1121 = .ok (.iload 4, 2) := by decide +kernel
theorem dL_law_1123 : decode cL_law 1123 = .ok (.iconst 2, 1) := by decide +kernel
theorem dL_law_1124 : decode cL_law 1124 = .ok (.iadd, 1) := by decide +kernel
theorem dL_law_1125 : decode cL_law 1125 = .ok (.iaload, 1) := by decide +kernel
theorem dL_law_1126 : decode cL_law 1126 = .ok (.invokevirtual 135, 3) := by decide +kernel
theorem dL_law_1129 : decode cL_law 1129 = .ok (.aload_n 2, 1) := by decide +kernel
theorem dL_law_1130 : decode cL_law 1130 = .ok (.aload_n 0, 1) := by decide +kernel
theorem dL_law_1131 : decode cL_law 1131 = .ok (.iload 4, 2) := by decide +kernel
theorem dL_law_1133 : decode cL_law 1133 = .ok (.iconst 1, 1) := by decide +kernel
theorem dL_law_1134 : decode cL_law 1134 = .ok (.iadd, 1) := by decide +kernel
theorem dL_law_1135 : decode cL_law 1135 = .ok (.iaload, 1) := by decide +kernel
theorem dL_law_1136 : decode cL_law 1136 = .ok (.aload_n 0, 1) := by decide +kernel
theorem dL_law_1137 : decode cL_law 1137 = .ok (.iload 4, 2) := by decide +kernel
theorem dL_law_1139 : decode cL_law 1139 = .ok (.iconst 2, 1) := by decide +kernel
theorem dL_law_1140 : decode cL_law 1140 = .ok (.iadd, 1) := by decide +kernel
theorem dL_law_1141 : decode cL_law 1141 = .ok (.iaload, 1) := by decide +kernel
theorem dL_law_1142 : decode cL_law 1142 = .ok (.invokevirtual 138, 3) := by decide +kernel
theorem dL_law_1145 : decode cL_law 1145 = .ok (.if_icmp .eq 116, 3) := by decide +kernel
theorem dL_law_1148 : decode cL_law 1148 = .ok (.iconst 0, 1) := by decide +kernel
theorem dL_law_1149 : decode cL_law 1149 = .ok (.ireturn, 1) := by decide +kernel
theorem dL_law_1150 : decode cL_law 1150 = .ok (.aload_n 1, 1) := by decide +kernel
theorem dL_law_1151 : decode cL_law 1151 = .ok (.aload_n 0, 1) := by decide +kernel
theorem dL_law_1152 : decode cL_law 1152 = .ok (.iload 4, 2) := by decide +kernel
theorem dL_law_1154 : decode cL_law 1154 = .ok (.iconst 1, 1) := by decide +kernel
theorem dL_law_1155 : decode cL_law 1155 = .ok (.iadd, 1) := by decide +kernel
theorem dL_law_1156 : decode cL_law 1156 = .ok (.iaload, 1) := by decide +kernel
theorem dL_law_1157 : decode cL_law 1157 = .ok (.aload_n 0, 1) := by decide +kernel
theorem dL_law_1158 : decode cL_law 1158 = .ok (.iload 4, 2) := by decide +kernel
theorem dL_law_1160 : decode cL_law 1160 = .ok (.iconst 2, 1) := by decide +kernel
theorem dL_law_1161 : decode cL_law 1161 = .ok (.iadd, 1) := by decide +kernel
theorem dL_law_1162 : decode cL_law 1162 = .ok (.iaload, 1) := by decide +kernel
theorem dL_law_1163 : decode cL_law 1163 = .ok (.invokevirtual 139, 3) := by decide +kernel
theorem dL_law_1166 : decode cL_law 1166 = .ok (.aload_n 2, 1) := by decide +kernel
theorem dL_law_1167 : decode cL_law 1167 = .ok (.aload_n 0, 1) := by decide +kernel
theorem dL_law_1168 : decode cL_law 1168 = .ok (.iload 4, 2) := by decide +kernel
theorem dL_law_1170 : decode cL_law 1170 = .ok (.iconst 1, 1) := by decide +kernel
theorem dL_law_1171 : decode cL_law 1171 = .ok (.iadd, 1) := by decide +kernel
theorem dL_law_1172 : decode cL_law 1172 = .ok (.iaload, 1) := by decide +kernel
theorem dL_law_1173 : decode cL_law 1173 = .ok (.aload_n 0, 1) := by decide +kernel
theorem dL_law_1174 : decode cL_law 1174 = .ok (.iload 4, 2) := by decide +kernel
theorem dL_law_1176 : decode cL_law 1176 = .ok (.iconst 2, 1) := by decide +kernel
theorem dL_law_1177 : decode cL_law 1177 = .ok (.iadd, 1) := by decide +kernel
theorem dL_law_1178 : decode cL_law 1178 = .ok (.iaload, 1) := by decide +kernel
theorem dL_law_1179 : decode cL_law 1179 = .ok (.invokevirtual 142, 3) := by decide +kernel
theorem dL_law_1182 : decode cL_law 1182 = .ok (.if_icmp .eq 79, 3) := by decide +kernel
theorem dL_law_1185 : decode cL_law 1185 = .ok (.iconst 0, 1) := by decide +kernel
theorem dL_law_1186 : decode cL_law 1186 = .ok (.ireturn, 1) := by decide +kernel
theorem dL_law_1187 : decode cL_law 1187 = .ok (.aload_n 1, 1) := by decide +kernel
theorem dL_law_1188 : decode cL_law 1188 = .ok (.aload_n 0, 1) := by decide +kernel
theorem dL_law_1189 : decode cL_law 1189 = .ok (.iload 4, 2) := by decide +kernel
theorem dL_law_1191 : decode cL_law 1191 = .ok (.iconst 1, 1) := by decide +kernel
theorem dL_law_1192 : decode cL_law 1192 = .ok (.iadd, 1) := by decide +kernel
theorem dL_law_1193 : decode cL_law 1193 = .ok (.iaload, 1) := by decide +kernel
theorem dL_law_1194 : decode cL_law 1194 = .ok (.aload_n 0, 1) := by decide +kernel
theorem dL_law_1195 : decode cL_law 1195 = .ok (.iload 4, 2) := by decide +kernel
theorem dL_law_1197 : decode cL_law 1197 = .ok (.iconst 2, 1) := by decide +kernel
theorem dL_law_1198 : decode cL_law 1198 = .ok (.iadd, 1) := by decide +kernel
theorem dL_law_1199 : decode cL_law 1199 = .ok (.iaload, 1) := by decide +kernel
theorem dL_law_1200 : decode cL_law 1200 = .ok (.invokevirtual 143, 3) := by decide +kernel
theorem dL_law_1203 : decode cL_law 1203 = .ok (.aload_n 2, 1) := by decide +kernel
end
section
theorem dL_law_1204 : decode cL_law 1204 = .ok (.aload_n 0, 1) := by decide +kernel
theorem dL_law_1205 : decode cL_law 1205 = .ok (.iload 4, 2) := by decide +kernel
theorem dL_law_1207 : decode cL_law 1207 = .ok (.iconst 1, 1) := by decide +kernel
theorem dL_law_1208 : decode cL_law 1208 = .ok (.iadd, 1) := by decide +kernel
theorem dL_law_1209 : decode cL_law 1209 = .ok (.iaload, 1) := by decide +kernel
theorem dL_law_1210 : decode cL_law 1210 = .ok (.aload_n 0, 1) := by decide +kernel
theorem dL_law_1211 : decode cL_law 1211 = .ok (.iload 4, 2) := by decide +kernel
theorem dL_law_1213 : decode cL_law 1213 = .ok (.iconst 2, 1) := by decide +kernel
theorem dL_law_1214 : decode cL_law 1214 = .ok (.iadd, 1) := by decide +kernel
theorem dL_law_1215 : decode cL_law 1215 = .ok (.iaload, 1) := by decide +kernel
theorem dL_law_1216 : decode cL_law 1216 = .ok (.invokevirtual 146, 3) := by decide +kernel
theorem dL_law_1219 : decode cL_law 1219 = .ok (.if_icmp .eq 42, 3) := by decide +kernel
theorem dL_law_1222 : decode cL_law 1222 = .ok (.iconst 0, 1) := by decide +kernel
theorem dL_law_1223 : decode cL_law 1223 = .ok (.ireturn, 1) := by decide +kernel
theorem dL_law_1224 : decode cL_law 1224 = .ok (.aload_n 1, 1) := by decide +kernel
theorem dL_law_1225 : decode cL_law 1225 = .ok (.aload_n 0, 1) := by decide +kernel
theorem dL_law_1226 : decode cL_law 1226 = .ok (.iload 4, 2) := by decide +kernel
theorem dL_law_1228 : decode cL_law 1228 = .ok (.iconst 1, 1) := by decide +kernel
theorem dL_law_1229 : decode cL_law 1229 = .ok (.iadd, 1) := by decide +kernel
theorem dL_law_1230 : decode cL_law 1230 = .ok (.iaload, 1) := by decide +kernel
theorem dL_law_1231 : decode cL_law 1231 = .ok (.aload_n 0, 1) := by decide +kernel
theorem dL_law_1232 : decode cL_law 1232 = .ok (.iload 4, 2) := by decide +kernel
theorem dL_law_1234 : decode cL_law 1234 = .ok (.iconst 2, 1) := by decide +kernel
theorem dL_law_1235 : decode cL_law 1235 = .ok (.iadd, 1) := by decide +kernel
theorem dL_law_1236 : decode cL_law 1236 = .ok (.iaload, 1) := by decide +kernel
theorem dL_law_1237 : decode cL_law 1237 = .ok (.invokevirtual 147, 3) := by decide +kernel
theorem dL_law_1240 : decode cL_law 1240 = .ok (.aload_n 2, 1) := by decide +kernel
theorem dL_law_1241 : decode cL_law 1241 = .ok (.aload_n 0, 1) := by decide +kernel
theorem dL_law_1242 : decode cL_law 1242 = .ok (.iload 4, 2) := by decide +kernel
theorem dL_law_1244 : decode cL_law 1244 = .ok (.iconst 1, 1) := by decide +kernel
theorem dL_law_1245 : decode cL_law 1245 = .ok (.iadd, 1) := by decide +kernel
theorem dL_law_1246 : decode cL_law 1246 = .ok (.iaload, 1) := by decide +kernel
theorem dL_law_1247 : decode cL_law 1247 = .ok (.aload_n 0, 1) := by decide +kernel
theorem dL_law_1248 : decode cL_law 1248 = .ok (.iload 4, 2) := by decide +kernel
theorem dL_law_1250 : decode cL_law 1250 = .ok (.iconst 2, 1) := by decide +kernel
theorem dL_law_1251 : decode cL_law 1251 = .ok (.iadd, 1) := by decide +kernel
theorem dL_law_1252 : decode cL_law 1252 = .ok (.iaload, 1) := by decide +kernel
theorem dL_law_1253 : decode cL_law 1253 = .ok (.invokevirtual 150, 3) := by decide +kernel
theorem dL_law_1256 : decode cL_law 1256 = .ok (.if_icmp .eq 5, 3) := by decide +kernel
theorem dL_law_1259 : decode cL_law 1259 = .ok (.iconst 0, 1) := by decide +kernel
theorem dL_law_1260 : decode cL_law 1260 = .ok (.ireturn, 1) := by decide +kernel
theorem dL_law_1261 : decode cL_law 1261 = .ok (.iinc 4 6, 3) := by decide +kernel
theorem dL_law_1264 : decode cL_law 1264 = .ok (.goto (-1241), 3) := by decide +kernel
theorem dL_law_1267 : decode cL_law 1267 = .ok (.iconst 1, 1) := by decide +kernel
theorem dL_law_1268 : decode cL_law 1268 = .ok (.ireturn, 1) := by decide +kernel
end
section
/-! ===== BEGIN words of one list among another's, by their places ===== -/
theorem goodIn_r {big : List Cond} (ws : List Cond) (ps : List Nat) (hp : ws = ps.filterMap (fun i => big[i]?)) (h : ws.all goodWord = true) : GoodIn big ws := by
  intro w hw
  have h1 := List.all_eq_true.mp h w hw
  rw [hp] at hw
  obtain ⟨i, -, hi⟩ := List.mem_filterMap.mp hw
  have hm : w ∈ big := by first | exact List.mem_of_getElem? hi | exact List.getElem?_mem hi
  exact ⟨hm, good_of_word h1⟩
theorem goodIn_app {big a b : List Cond} (ha : GoodIn big a) (hb : GoodIn big b) : GoodIn big (a ++ b) := fun w h => (List.mem_append.mp h).elim (ha w) (hb w)
theorem goodIn_ca {big a b : List Cond} {c : Cond} (ha : GoodIn big (c :: a)) (hb : GoodIn big b) : GoodIn big (c :: (a ++ b)) := fun w h => (List.mem_cons.mp h).elim (fun e => ha w (List.mem_cons.mpr (Or.inl e))) (fun h => (List.mem_append.mp h).elim (fun h => ha w (List.mem_cons.mpr (Or.inr h))) (hb w))
theorem goodIn_sub {big ws : List Cond} (hm : ∀ w ∈ ws, w ∈ big) (h : ws.all goodWord = true) : GoodIn big ws := fun w hw => ⟨hm w hw, good_of_word (List.all_eq_true.mp h w hw)⟩
/-! ===== END ===== -/

/-! ===== BEGIN exceptions that leave a method, and their catching by the caller (launches without stack traces) ===== -/
section VXA
/-! The laws vx_back, vx_callV, vx_callS, vx_callSW, vx_throw0, vx_throwS follow proofs of the library, with one case more: JvmDerived/Free/Laws.lean (Back.of_free), Shelf42/LK1.lean (callV, callS), Shelf/KitTraced.lean (throwNew0V, throwNewS). -/
/-- where a method has thrown q: the class by its name, the cell, what was written, the world -/
def vx_T (XC : String → State → State → Prop) (st : State) (q : Addr) (t : State) (mc ms : Nat) (free : Addr → Prop) : Prop :=
  ∃ (E : String) (ce : Cell) (L : List Loc), XC E st t ∧ t.heap[q]? = some ce ∧ ce.vm = .none ∧ st.vm.findClass E = some ce.cls ∧ st.WarmedH t.vm ∧ st.sameButNew ({ t with vm := st.vm } : State) L mc ms ∧ ∀ z ∈ L, free z.base
def vx_Q (Qc : Array Value → State → Outcome → State → Prop) (XC : String → State → State → Prop) (mc ms : Nat) (free : Addr → Prop) : Array Value → State → Outcome → State → Prop := fun a st o t =>
  (Qc a st o t ∧ ∃ L, FrameEnd st o t L mc ms ∧ ∀ q ∈ L, free q.base) ∨ ∃ q, o = .threw q ∧ vx_T XC st q t mc ms free
/-- a callee that returns or throws -/
def vx_Met (l : Launch) (y : MethodName) (ws : List Cond) (rm : Room) (Pc : Array Value → State → Prop) (Qc : Array Value → State → Outcome → State → Prop) (XC : String → State → State → Prop) (mc ms : Nat) (free : Addr → Prop) : Prop :=
  MetFree l y (headSpec ws rm) Pc (fun _ _ _ _ _ => True) (vx_Q Qc XC mc ms free)
def vx_Post (XC : String → State → State → Prop) (mc ms : Nat) (free : Addr → Prop) : Pt → Array Value → Addr → Pt → Prop := fun A a q B =>
  ∃ (g : JFrame) (mk : MethodId) (t : State) (L : List Loc) (E : String) (ce : Cell), B.U.heap = t.heap ∧ B.U.vm = t.vm ∧ XC E (A.U.calling g mk a) t ∧ t.heap[q]? = some ce ∧ ce.vm = .none ∧ A.U.vm.findClass E = some ce.cls ∧ B.locs = A.locs ++ L ∧ (∀ z ∈ L, free z.base) ∧ B.cells = A.cells + mc ∧ B.slots = A.slots + ms
def vx_Back (l : Launch) (R : Room) (p : Program) (e : Env) (below : List Frame) (s : State) (sargs : Array Value) (y : MethodName) (len W9 : Nat)
    (Pre : Pt → Array Value → Prop) (Post : Pt → Array Value → Option Value → Pt → Prop) (PostX : Pt → Array Value → Addr → Pt → Prop) : Prop :=
  ∀ (m : MethodId) (meth : Method) (c : Code) (A : Pt) (g : JFrame) (ig : Instr) (mk : MethodId) (a : Array Value),
    Stand p l e R s m sargs below meth c A.U A.locs A.cells A.slots → g.method = m → g.locals.size = c.maxLocals → decode c.code g.pc = .ok (ig, len) →
    2 * g.monitorRoom + (g.stack.map fun v => v.category).sum ≤ W9 → A.U.methodNamed? y = some mk → Pre A a →
    (∃ (v : Option Value) (B : Pt), Stand p l e R s m sargs below meth c B.U B.locs B.cells B.slots ∧ Post A a v B ∧
      Steps p.tables e below (doInvoke e (A.U.setTop g) [] mk a).1 (B.U.setTop { g with pc := g.pc + len, stack := v.toList ++ g.stack })) ∨
    (∃ (q : Addr) (B : Pt), Stand p l e R s m sargs below meth c B.U B.locs B.cells B.slots ∧ PostX A a q B ∧
      Steps p.tables e below (doInvoke e (A.U.setTop g) [] mk a).1 ((B.U.setTop g).pushFrame (.throwing q)))
section Payer
variable {l : Launch} {R : Room} {p : Program} {e : Env} {below : List Frame} {s : State} {sargs : Array Value} {y : MethodName} {len W9 : Nat}
theorem vx_back {ws : List Cond} {rm : Room} {Pc : Array Value → State → Prop} {Qc : Array Value → State → Outcome → State → Prop} {XC : String → State → State → Prop} {mc ms : Nat} {free : Addr → Prop} {bytes : ByteArray} {maxL : Nat} {ret : Option FieldType}
    (hM : vx_Met l y ws rm Pc Qc XC mc ms free) (hblind : FrameBlind Pc) (hrc : rm.cells = mc) (hrs : rm.slots = ms)
    (hframes : rm.frames + 1 ≤ R.frames) (hlocals : W9 + (maxL + 11) + rm.locals ≤ R.locals)
    (hws : ∀ w ∈ ws, ∀ a' U, s.WarmedH U.vm → w.before a' U = true) (hcode : Cond.code y bytes maxL ret ∈ ws) (hinit : ∀ a' U, s.WarmedH U.vm → (Cond.initialized y.cls).before a' U = true) :
    vx_Back l R p e below s sargs y len W9 (PreOf R mc ms Pc) (PostOf Qc mc ms free) (vx_Post XC mc ms free) := by
  intro m meth c A g ig mk a X hg hsize hdg hW hn hp
  have h1 : (headSpec ws rm).pre.before a A.U = true := atoms_intro fun w hw => hws w hw _ _ X.warmed
  have h2 : (Cond.code y bytes maxL ret).before a A.U = true := hws _ hcode _ _ X.warmed
  have h3 : (Cond.initialized y.cls).before a A.U = true := hinit _ _ X.warmed
  have h4 : A.cells + (headSpec ws rm).room.cells ≤ R.cells := by rw [show (headSpec ws rm).room.cells = mc from hrc]; exact hp.1
  have h5 : A.slots + (headSpec ws rm).room.slots ≤ R.slots := by rw [show (headSpec ws rm).room.slots = ms from hrs]; exact hp.2.1
  have hPc : Pc a (A.U.calling g mk a) := hblind _ _ _ _ hp.2.2
  obtain ⟨U, Ls, c0, s0⟩ := A
  dsimp only [Pt.U, Pt.locs, Pt.cells, Pt.slots] at h1 h2 h3 h4 h5 X hn hPc ⊢
  obtain ⟨methY, cY, hmY, hcY, -, hlY, -, -, -, -⟩ := Cond.code_spec hn h2
  obtain ⟨kY, hkY, -⟩ := className_of_methodNamed hn
  have hinitY : kY.init = .initialized := Cond.initialized_spec (findClass_of_methodNamed hn) hkY h3
  have h : At U g.method c below := by rw [hg]; exact X.here
  have hlocals9 : W9 + (maxL + 11) + (headSpec ws rm).room.locals ≤ R.locals := hlocals
  have happ : (headSpec ws rm).appliesLoose y e.platform (U.calling g mk a) = true :=
    Spec.appliesLoose_calling (g := g) h hdg hn hkY hinitY
      (X.room_calling (g := g) (R' := (headSpec ws rm).room) hsize hmY hcY hframes (by rw [hlY]; omega) h4 h5) h1
  obtain ⟨mid, hmid⟩ := h.above
  have hfr : (U.setTop g).frames = (.java g :: mid) ++ below := by rw [State.frames_setTop' g h.top, hmid]; rfl
  obtain ⟨o, s₂, hsteps, -, hend, hq⟩ := Steps.callFree hM p X.admits X.cas X.clock (acts := []) hfr happ hPc trivial
  have hq' : vx_Q Qc XC mc ms free a (U.calling g mk a) o s₂ := hq
  rw [State.frames_setTop' g h.top] at hend
  obtain ⟨g₀, hg0⟩ := Option.isSome_iff_exists.mp h.top
  obtain ⟨r, hr⟩ := State.topJava?_eq_some.mp hg0
  have hr' : (({ U with heap := s₂.heap, slotsUsed := s₂.slotsUsed } : State).setVm s₂.vm).frames = .java g₀ :: r := hr
  rcases hq' with ⟨hqc, L, hfe, hL⟩ | ⟨q, rfl, E, ce, L, hx, hce, hcv, hcl, hW₂, hsm, hL⟩
  · obtain ⟨⟨v, rfl⟩, hW₂, e2, q2, q3, q4, q5, q6⟩ := id hfe
    have e3 : s₂ = ({ (U.calling g mk a).setFrames s₂.frames with heap := s₂.heap, slotsUsed := s₂.slotsUsed } : State).setVm s₂.vm := by
      have : s₂ = ({ s₂ with vm := (U.calling g mk a).vm } : State).setVm s₂.vm := rfl
      rw [e2] at this
      exact this
    obtain ⟨c₂, i₂, len₂, hc₂, hd₂, hf₂⟩ := hend
    have hW' : U.WarmedH s₂.vm := hW₂
    have hcc : c₂ = c := by
      have h1 : s₂.code? g.method = U.code? g.method := by
        rw [State.code?_eq, State.code?_eq, hW'.alike.method?]
      exact Option.some.inj (hc₂.symm.trans (h1.trans h.code))
    subst hcc
    have hlen : len₂ = len := by rw [hdg] at hd₂; cases hd₂; rfl
    subst hlen
    have hs₂ : s₂ = (({ U with heap := s₂.heap, slotsUsed := s₂.slotsUsed } : State).setVm s₂.vm).setTop { g with pc := g.pc + len₂, stack := v.toList ++ g.stack } := by
      refine e3.trans ?_
      rw [hf₂, State.calling_eq h.top, State.setFrames_setFrames, State.setTop_of_frames _ hr', hr]
      rfl
    have hsame : U.sameButNew ({ U with heap := s₂.heap, slotsUsed := s₂.slotsUsed } : State) L mc ms := by
      refine ⟨?_, q2, q3, q4, q5, q6⟩
      obtain ⟨t, ht, -⟩ := State.frames_cons hr
      show ({ U with heap := s₂.heap, slotsUsed := s₂.slotsUsed } : State) = { U.setFrames U.frames with heap := s₂.heap, slotsUsed := s₂.slotsUsed }
      rw [State.setFrames_self ht]
    subst hg
    refine Or.inl ⟨v, ⟨(({ U with heap := s₂.heap, slotsUsed := s₂.slotsUsed } : State).setVm s₂.vm), Ls ++ L, c0 + mc, s0 + ms⟩,
      ⟨X.admits, X.cas, X.clock, X.frames, X.room, X.hears, X.method, X.code, (X.here.setHeapUsed s₂.heap s₂.slotsUsed).setVm hW'.alike, X.tail, State.WarmedH.trans X.warmed hW', X.limits, X.bytes, X.same.trans (hsame.setVm s.vm)⟩,
      ⟨g, mk, s₂, L, rfl, rfl, hqc, rfl, hL, rfl, rfl⟩, ?_⟩
    show Steps p.tables e below _ ((({ U with heap := s₂.heap, slotsUsed := s₂.slotsUsed } : State).setVm s₂.vm).setTop { g with pc := g.pc + len₂, stack := v.toList ++ g.stack })
    rw [← hs₂]
    exact hsteps
  · obtain ⟨e2, q2, q3, q4, q5, q6⟩ := id hsm
    have e3 : s₂ = ({ (U.calling g mk a).setFrames s₂.frames with heap := s₂.heap, slotsUsed := s₂.slotsUsed } : State).setVm s₂.vm := by
      have : s₂ = ({ s₂ with vm := (U.calling g mk a).vm } : State).setVm s₂.vm := rfl
      rw [e2] at this
      exact this
    have hf₂ : s₂.frames = .throwing q :: .java g :: U.frames.tail := hend
    have hW' : U.WarmedH s₂.vm := hW₂
    have hs₂ : s₂ = ((({ U with heap := s₂.heap, slotsUsed := s₂.slotsUsed } : State).setVm s₂.vm).setTop g).pushFrame (.throwing q) := by
      refine e3.trans ?_
      rw [hf₂, State.calling_eq h.top, State.setFrames_setFrames, State.pushFrame, State.frames_setTop _ hr', State.setTop_of_frames _ hr', State.setFrames_setFrames, hr]
      rfl
    have hsame : U.sameButNew ({ U with heap := s₂.heap, slotsUsed := s₂.slotsUsed } : State) L mc ms := by
      refine ⟨?_, q2, q3, q4, q5, q6⟩
      obtain ⟨t, ht, -⟩ := State.frames_cons hr
      show ({ U with heap := s₂.heap, slotsUsed := s₂.slotsUsed } : State) = { U.setFrames U.frames with heap := s₂.heap, slotsUsed := s₂.slotsUsed }
      rw [State.setFrames_self ht]
    subst hg
    refine Or.inr ⟨q, ⟨(({ U with heap := s₂.heap, slotsUsed := s₂.slotsUsed } : State).setVm s₂.vm), Ls ++ L, c0 + mc, s0 + ms⟩,
      ⟨X.admits, X.cas, X.clock, X.frames, X.room, X.hears, X.method, X.code, (X.here.setHeapUsed s₂.heap s₂.slotsUsed).setVm hW'.alike, X.tail, State.WarmedH.trans X.warmed hW', X.limits, X.bytes, X.same.trans (hsame.setVm s.vm)⟩,
      ⟨g, mk, s₂, L, E, ce, rfl, rfl, hx, hce, hcv, hcl, rfl, hL, rfl, rfl⟩, ?_⟩
    show Steps p.tables e below _ (((({ U with heap := s₂.heap, slotsUsed := s₂.slotsUsed } : State).setVm s₂.vm).setTop g).pushFrame (.throwing q))
    rw [← hs₂]
    exact hsteps
end Payer
section Calls
variable {p : Program} {l : Launch} {e : Env} {R : Room} {s : State} {m : MethodId} {args : Array Value} {below : List Frame} {meth : Method} {c : Code} {T : State} {locs : List Loc} {cells slots : Nat}
theorem vx_callV (X : Stand p l e R s m args below meth c T locs cells slots) (hexec : p.tables.exec = Jvm.exec) {own C : String} {index : Nat} {y : MethodName} {bytes : ByteArray} {maxL : Nat} {ret : Option FieldType}
    (hown : s.vm.findClass own = some m.cls) (hlink : (Cond.methodLink own index y).before args s = true) (hinst : (Cond.instanceMethod y).before args s = true) (hsel : (Cond.selects C y y).before args s = true)
    (hcode : (Cond.code y bytes maxL ret).before args s = true) (hy : y.cls ≠ "java/lang/invoke/MethodHandle" ∧ y.cls ≠ "java/lang/invoke/VarHandle")
    {W9 : Nat} {Pre : Pt → Array Value → Prop} {Post : Pt → Array Value → Option Value → Pt → Prop} {PostX : Pt → Array Value → Addr → Pt → Prop} (hK : vx_Back l R p e below s args y 3 W9 Pre Post PostX)
    {b : Addr} {cellB : Cell} (hcell : T.heap[b]? = some cellB) (hobj : cellB.vm.isStatics = false) (hcls : s.vm.findClass C = some cellB.cls)
    {g : JFrame} (hg : g.method = m) (hsize : g.locals.size = c.maxLocals) {argsL rest : List Value} (hlen : ∀ sig, parseMethodDescriptor y.desc = some sig → argsL.length = sig.parameters.length)
    (hstack : g.stack = argsL.reverse ++ .ref b :: rest) (hW : 2 * g.monitorRoom + (rest.map fun v => v.category).sum ≤ W9) (hdg : decode c.code g.pc = .ok (.invokevirtual index, 3))
    (hpre : ∀ vm₁, s.WarmedH vm₁ → Pre ⟨T.setVm vm₁, locs, cells, slots⟩ (Value.ref b :: argsL).toArray) :
    (∃ (v : Option Value) (vm₁ : Vm) (B : Pt), s.WarmedH vm₁ ∧ Stand p l e R s m args below meth c B.U B.locs B.cells B.slots ∧ Post ⟨T.setVm vm₁, locs, cells, slots⟩ (Value.ref b :: argsL).toArray v B ∧
      ∀ target, Steps p.tables e below (B.U.setTop { g with pc := g.pc + 3, stack := v.toList ++ rest }) target → Steps p.tables e below (T.setTop g) target) ∨
    (∃ (q : Addr) (vm₁ : Vm) (B : Pt), s.WarmedH vm₁ ∧ Stand p l e R s m args below meth c B.U B.locs B.cells B.slots ∧ PostX ⟨T.setVm vm₁, locs, cells, slots⟩ (Value.ref b :: argsL).toArray q B ∧
      Steps p.tables e below (T.setTop g) ((B.U.setTop { g with stack := rest }).pushFrame (.throwing q))) := by
  obtain ⟨mk, methM, hnamed, hmethM, hstM, habM⟩ := Cond.instanceMethod_spec hinst
  obtain ⟨methM', cM, hmethM', -, -, -, -, -, -, hsigM⟩ := Cond.code_spec hnamed hcode
  cases hmethM.symm.trans hmethM'
  obtain ⟨c2, r2, m2, q1, q2, q3, q4, kP, hkP, hkPi⟩ := Cond.selects_spec hsel
  cases hcls.symm.trans q1
  cases (State.methodFound?_of_named hnamed hy).symm.trans q2
  cases hnamed.symm.trans q3
  have hselP : selectMethod e.platform s.vm cellB.cls mk = .method mk := by rw [Launch.admits_selectMethod X.admits]; exact q4
  obtain ⟨vm₁, X₁, hstep₁⟩ := X.invokevirtual hexec hown hlink hnamed hmethM hstM hkP hkPi hy (a := b) (cell := cellB) hcell
    (fun z h => by rw [h] at hobj; cases hobj) hselP hmethM habM hkP hkPi (g := g) hg (argsL := argsL) (rest := rest) (hlen _ hsigM) hstack hdg
  rcases hK m meth c ⟨T.setVm vm₁, locs, cells, slots⟩ { g with stack := rest } (.invokevirtual index) mk (Value.ref b :: argsL).toArray X₁ hg hsize hdg hW (X₁.named hnamed) (hpre vm₁ X₁.warmed) with ⟨v, B, X', hpost, hsteps⟩ | ⟨q, B, X', hpost, hsteps⟩
  · exact Or.inl ⟨v, vm₁, B, X₁.warmed, X', hpost, fun target h => hstep₁ _ fun acts => by rw [doInvoke_state]; exact hsteps.trans h⟩
  · exact Or.inr ⟨q, vm₁, B, X₁.warmed, X', hpost, hstep₁ _ fun acts => by rw [doInvoke_state]; exact hsteps⟩
theorem vx_callS (X : Stand p l e R s m args below meth c T locs cells slots) (hexec : p.tables.exec = Jvm.exec) {own : String} {index : Nat} {y : MethodName} {bytes : ByteArray} {maxL : Nat} {ret : Option FieldType}
    (hown : s.vm.findClass own = some m.cls) (hlink : (Cond.methodLink own index y).before args s = true) (hstat : (Cond.static y).before args s = true) (hinit : (Cond.initialized y.cls).before args s = true)
    (hcode : (Cond.code y bytes maxL ret).before args s = true) (hy : y.cls ≠ "java/lang/invoke/MethodHandle" ∧ y.cls ≠ "java/lang/invoke/VarHandle")
    {W9 : Nat} {Pre : Pt → Array Value → Prop} {Post : Pt → Array Value → Option Value → Pt → Prop} {PostX : Pt → Array Value → Addr → Pt → Prop} (hK : vx_Back l R p e below s args y 3 W9 Pre Post PostX)
    {g : JFrame} (hg : g.method = m) (hsize : g.locals.size = c.maxLocals) {argsL rest : List Value} (hlen : ∀ sig, parseMethodDescriptor y.desc = some sig → argsL.length = sig.parameters.length)
    (hstack : g.stack = argsL.reverse ++ rest) (hW : 2 * g.monitorRoom + (rest.map fun v => v.category).sum ≤ W9) (hdg : decode c.code g.pc = .ok (.invokestatic index, 3))
    (hpre : ∀ vm₁, s.WarmedH vm₁ → Pre ⟨T.setVm vm₁, locs, cells, slots⟩ argsL.toArray) :
    (∃ (v : Option Value) (vm₁ : Vm) (B : Pt), s.WarmedH vm₁ ∧ Stand p l e R s m args below meth c B.U B.locs B.cells B.slots ∧ Post ⟨T.setVm vm₁, locs, cells, slots⟩ argsL.toArray v B ∧
      ∀ target, Steps p.tables e below (B.U.setTop { g with pc := g.pc + 3, stack := v.toList ++ rest }) target → Steps p.tables e below (T.setTop g) target) ∨
    (∃ (q : Addr) (vm₁ : Vm) (B : Pt), s.WarmedH vm₁ ∧ Stand p l e R s m args below meth c B.U B.locs B.cells B.slots ∧ PostX ⟨T.setVm vm₁, locs, cells, slots⟩ argsL.toArray q B ∧
      Steps p.tables e below (T.setTop g) ((B.U.setTop { g with stack := rest }).pushFrame (.throwing q))) := by
  obtain ⟨mk, hnamed⟩ := Cond.code_named hcode
  obtain ⟨methM, cM, hmethM, -, -, -, -, -, -, hsigM⟩ := Cond.code_spec hnamed hcode
  have hstatic : methM.isStatic = true := Cond.static_spec hnamed hmethM hstat
  obtain ⟨kP, hkP, -⟩ := className_of_methodNamed hnamed
  have hinitP : kP.init = .initialized := Cond.initialized_spec (findClass_of_methodNamed hnamed) hkP hinit
  obtain ⟨vm₁, X₁, hstep₁⟩ := X.invokestatic hexec hown hlink hnamed hmethM hstatic hkP hinitP hy (g := g) hg (argsL := argsL) (rest := rest) (hlen _ hsigM) hstack hdg
  rcases hK m meth c ⟨T.setVm vm₁, locs, cells, slots⟩ { g with stack := rest } (.invokestatic index) mk argsL.toArray X₁ hg hsize hdg hW (X₁.named hnamed) (hpre vm₁ X₁.warmed) with ⟨v, B, X', hpost, hsteps⟩ | ⟨q, B, X', hpost, hsteps⟩
  · exact Or.inl ⟨v, vm₁, B, X₁.warmed, X', hpost, fun target h => hstep₁ _ fun acts => by rw [doInvoke_state]; exact hsteps.trans h⟩
  · exact Or.inr ⟨q, vm₁, B, X₁.warmed, X', hpost, hstep₁ _ fun acts => by rw [doInvoke_state]; exact hsteps⟩
end Calls
theorem vx_cls {s : State} {T : State} {vm₁ : Vm} {E : String} {k : ClassId} (hW : s.WarmedH vm₁) (h : (T.setVm vm₁).vm.findClass E = some k) : s.vm.findClass E = some k := by
  have h1 : vm₁.findClass E = some k := h
  rw [hW.alike.findClass] at h1
  exact h1
/-- the method's frame g, with q thrown over it -/
def vx_W (p : Program) (l : Launch) (e : Env) (R : Room) (s : State) (m : MethodId) (args : Array Value) (below : List Frame) (meth : Method) (c : Code) (H : Heap) (locs : List Loc) (cells slots : Nat) (Q : State → Prop) (g : JFrame) (q : Addr) : Prop :=
  ∀ T : State, T.heap = H → Stand p l e R s m args below meth c T locs cells slots → ∃ t, Steps p.tables e below ((T.setTop g).pushFrame (.throwing q)) t ∧ Q t
def vx_Run (p : Program) (l : Launch) (e : Env) (R : Room) (s : State) (m : MethodId) (args : Array Value) (below : List Frame) (meth : Method) (c : Code) (H : Heap) (locs : List Loc) (cells slots mc ms : Nat) (g : JFrame) (rest : List Value) (Qa : State → Outcome → State → Prop) (XC : String → State → State → Prop) (free : Addr → Prop) : Prop :=
  ∀ T : State, T.heap = H → Stand p l e R s m args below meth c T locs cells slots →
    (∃ (v : Option Value) (st₀ t T' : State) (L : List Loc), st₀.heap = H ∧ Stand p l e R s m args below meth c T' (locs ++ L) (cells + mc) (slots + ms) ∧ (∀ q ∈ L, free q.base) ∧ T'.heap = t.heap ∧ T'.vm = t.vm ∧ Qa st₀ (.returned v) t ∧
      Goes p e below T g T' { g with pc := g.pc + 3, stack := v.toList ++ rest }) ∨
    (∃ (q : Addr) (st₀ t T' : State) (L : List Loc) (E : String) (ce : Cell), st₀.heap = H ∧ Stand p l e R s m args below meth c T' (locs ++ L) (cells + mc) (slots + ms) ∧ (∀ z ∈ L, free z.base) ∧ T'.heap = t.heap ∧ T'.vm = t.vm ∧ XC E st₀ t ∧ t.heap[q]? = some ce ∧ ce.vm = .none ∧ s.vm.findClass E = some ce.cls ∧
      Steps p.tables e below (T.setTop g) ((T'.setTop { g with stack := rest }).pushFrame (.throwing q)))
def vx_X {S : Type} (px : S → Prop) (B : String → S → State → Prop) (A : Nat → Prop) : String → State → State → Prop := fun E st t => ∃ u : S, px u ∧ B E u t ∧ va_F A st t
section Runs
variable {p : Program} {l : Launch} {e : Env} {R : Room} {s : State} {m : MethodId} {args : Array Value} {below : List Frame} {meth : Method} {c : Code} {H : Heap} {locs : List Loc} {cells slots : Nat}
variable {y : MethodName} {bytes cc : ByteArray} {maxL nL mc ms n index : Nat} {ret : Option FieldType} {ws : List Cond} {rm : Room} {Pc : Array Value → State → Prop} {Qc : Array Value → State → Outcome → State → Prop} {XC : String → State → State → Prop} {free : Addr → Prop} {Ts : List Cond} {own C : String} {b : Addr} {As rest : List Value} {g : JFrame}
theorem vx_callBack (cb : CallB R s args own index y bytes maxL ret ws rm mc ms n) (hM : vx_Met l y ws rm Pc Qc XC mc ms free) (hbl : FrameBlind Pc) : vx_Back l R p e below s args y 3 8 (PreOf R mc ms Pc) (PostOf Qc mc ms free) (vx_Post XC mc ms free) := by
  obtain ⟨hrc, hrs, hfr, hlo, hws, hcw, -, hini, -⟩ := cb
  exact vx_back (bytes := bytes) (maxL := maxL) (ret := ret) hM hbl hrc hrs hfr hlo hws hcw (fun a' U hW => word_at hW (Or.inl (by first | rfl | simp [Cond.onTables, Cond.keeps, Cond.steady])) hini)
theorem vx_runV (S : CallFix p m c cc nL s args Ts own) (hM : vx_Met l y ws rm Pc Qc XC mc ms free) (cw : CallW R s args own C index y bytes maxL ret ws rm mc ms n) (hp : PreV s H C b Pc As)
    (hg : g.method = m) (hn : As.length = n) (hsize : g.locals.size = nL) (hstack : g.stack = As.reverse ++ .ref b :: rest) (hW : 2 * g.monitorRoom + (rest.map fun v => v.category).sum ≤ 8) (hdg : decode cc g.pc = .ok (.invokevirtual index, 3)) (hf : cells + mc ≤ R.cells ∧ slots + ms ≤ R.slots) :
    vx_Run p l e R s m args below meth c H locs cells slots mc ms g rest (Qc (Value.ref b :: As).toArray) XC free := by
  have hK : vx_Back l R p e below s args y 3 8 (PreOf R mc ms Pc) (PostOf Qc mc ms free) (vx_Post XC mc ms free) := vx_callBack cw.1 hM hp.1
  obtain ⟨⟨-, -, -, -, -, -, hcode, -, hy, hlen, hl⟩, hin, hse⟩ := cw
  obtain ⟨hx, hb, hml, ho, -⟩ := S
  obtain ⟨-, ⟨cellB, hcB, hoB, hclB⟩, hPc⟩ := hp
  intro T hT X
  rcases vx_callV X hx (C := C) (bytes := bytes) (maxL := maxL) (ret := ret) ho hl hin hse hcode hy hK (by rw [hT]; exact hcB) hoB hclB hg (hsize.trans hml.symm) (argsL := As) (rest := rest) (fun sig h => hn.trans (hlen sig h)) hstack hW (by rw [hb]; exact hdg)
    (fun vm₁ hW₁ => ⟨hf.1, hf.2, hPc (T.setVm vm₁) hT hW₁⟩) with ⟨v, vm₁, ⟨U', l2, c2, s2⟩, hW₁, X', ⟨g', mk, t, L, e1, e2, hq, h1, hL, h2, h3⟩, st⟩ | ⟨q, vm₁, ⟨U', l2, c2, s2⟩, hW₁, X', ⟨g', mk, t, L, E, ce, e1, e2, hq, hce, hcv, hcl, h1, hL, h2, h3⟩, st⟩
  · dsimp only [Pt.U, Pt.locs, Pt.cells, Pt.slots] at X' e1 e2 h1 h2 h3 st
    subst h1; subst h2; subst h3
    exact Or.inl ⟨v, (T.setVm vm₁).calling g' mk (Value.ref b :: As).toArray, t, U', L, hT, X', hL, e1, e2, hq, st⟩
  · dsimp only [Pt.U, Pt.locs, Pt.cells, Pt.slots] at X' e1 e2 h1 h2 h3 st hcl
    subst h1; subst h2; subst h3
    exact Or.inr ⟨q, (T.setVm vm₁).calling g' mk (Value.ref b :: As).toArray, t, U', L, E, ce, hT, X', hL, e1, e2, hq, hce, hcv, vx_cls hW₁ hcl, st⟩
theorem vx_runS (S : CallFix p m c cc nL s args Ts own) (hM : vx_Met l y ws rm Pc Qc XC mc ms free) (cw : CallB R s args own index y bytes maxL ret ws rm mc ms n ∧ (Cond.static y).before args s = true) (hp : PreS s H Pc As)
    (hg : g.method = m) (hn : As.length = n) (hsize : g.locals.size = nL) (hstack : g.stack = As.reverse ++ rest) (hW : 2 * g.monitorRoom + (rest.map fun v => v.category).sum ≤ 8) (hdg : decode cc g.pc = .ok (.invokestatic index, 3)) (hf : cells + mc ≤ R.cells ∧ slots + ms ≤ R.slots) :
    vx_Run p l e R s m args below meth c H locs cells slots mc ms g rest (Qc As.toArray) XC free := by
  have hK : vx_Back l R p e below s args y 3 8 (PreOf R mc ms Pc) (PostOf Qc mc ms free) (vx_Post XC mc ms free) := vx_callBack cw.1 hM hp.1
  obtain ⟨⟨-, -, -, -, -, -, hcode, hini, hy, hlen, hl⟩, hstt⟩ := cw
  obtain ⟨hx, hb, hml, ho, -⟩ := S
  intro T hT X
  rcases vx_callS X hx (bytes := bytes) (maxL := maxL) (ret := ret) ho hl hstt hini hcode hy hK hg (hsize.trans hml.symm) (argsL := As) (rest := rest) (fun sig h => hn.trans (hlen sig h)) hstack hW (by rw [hb]; exact hdg)
    (fun vm₁ hW₁ => ⟨hf.1, hf.2, hp.2 (T.setVm vm₁) hT hW₁⟩) with ⟨v, vm₁, ⟨U', l2, c2, s2⟩, hW₁, X', ⟨g', mk, t, L, e1, e2, hq, h1, hL, h2, h3⟩, st⟩ | ⟨q, vm₁, ⟨U', l2, c2, s2⟩, hW₁, X', ⟨g', mk, t, L, E, ce, e1, e2, hq, hce, hcv, hcl, h1, hL, h2, h3⟩, st⟩
  · dsimp only [Pt.U, Pt.locs, Pt.cells, Pt.slots] at X' e1 e2 h1 h2 h3 st
    subst h1; subst h2; subst h3
    exact Or.inl ⟨v, (T.setVm vm₁).calling g' mk As.toArray, t, U', L, hT, X', hL, e1, e2, hq, st⟩
  · dsimp only [Pt.U, Pt.locs, Pt.cells, Pt.slots] at X' e1 e2 h1 h2 h3 st hcl
    subst h1; subst h2; subst h3
    exact Or.inr ⟨q, (T.setVm vm₁).calling g' mk As.toArray, t, U', L, E, ce, hT, X', hL, e1, e2, hq, hce, hcv, vx_cls hW₁ hcl, st⟩
end Runs
section Rows
variable {p : Program} {l : Launch} {e : Env} {R : Room} {s : State} {m : MethodId} {args : Array Value} {below : List Frame} {meth : Method} {c : Code} {H : Heap} {locs : List Loc} {cells slots : Nat} {Q : State → Prop}
variable {mc ms : Nat} {free : Addr → Prop} {A0 A1 : Nat → Prop} {H0 : Heap} {a : Array Value} {pc : Nat} {ls : Array Slot} {st0 rest : List Value}
theorem vx_keep {st₀ t T' : State} {L : List Loc} (h0 : st₀.heap = H) (e1 : T'.heap = t.heap) (hS : va_S A0 H0 H locs) (hA : ∀ q, q < H.size → A1 q → A0 q) (hf : ∀ q, free q → A0 q) (hL : ∀ q ∈ L, free q.base) (hF : va_F A1 st₀ t) :
    H.size ≤ T'.heap.size ∧ (∀ q : Nat, q < H.size → ¬ A1 q → T'.heap[q]? = H[q]?) ∧ va_S A0 H0 T'.heap (locs ++ L) := by
  obtain ⟨hz, hk⟩ := hF
  rw [h0] at hz hk
  exact ⟨by rw [e1]; exact hz, fun q h1 h2 => by rw [e1]; exact hk q h1 h2,
    ⟨Nat.le_trans hS.1 (by rw [e1]; exact hz), fun q h1 h2 => by rw [e1, hk q (Nat.lt_of_lt_of_le h1 hS.1) (fun z => h2 (hA q (Nat.lt_of_lt_of_le h1 hS.1) z))]; exact hS.2.1 q h1 h2, fun q hq => by
      rcases List.mem_append.mp hq with h | h
      · exact hS.2.2 q h
      · exact hf _ (hL q h)⟩⟩
theorem vx_calli {S SX : Type} {post : Int32 → S → Prop} {px : SX → Prop} {B : S → State → Prop} {BX : String → SX → State → Prop} {AX : Nat → Prop} (hr : vx_Run p l e R s m args below meth c H locs cells slots mc ms (F0 m pc ls st0) rest (va_Qi post B A1 a) (vx_X px BX AX) free) (hS : va_S A0 H0 H locs) (hA : ∀ q, q < H.size → A1 q → A0 q) (hf : ∀ q, free q → A0 q) (hAX : ∀ q, q < H.size → AX q → A0 q)
    (kx : ∀ (E : String) (ce : Cell) (q9 : Addr) (u : SX) (t : State) (H1 : Heap) (locs1 : List Loc), t.heap = H1 → s.vm.Alike t.vm → px u → BX E u t → H.size ≤ H1.size → (∀ q : Nat, q < H.size → ¬ AX q → H1[q]? = H[q]?) → va_S A0 H0 H1 locs1 → H1[q9]? = some ce → ce.vm = .none → s.vm.findClass E = some ce.cls → vx_W p l e R s m args below meth c H1 locs1 (cells + mc) (slots + ms) Q (F0 m pc ls rest) q9)
    (kk : ∀ (r : Int32) (u : S) (t : State) (H1 : Heap) (locs1 : List Loc), t.heap = H1 → s.vm.Alike t.vm → post r u → B u t → H.size ≤ H1.size → (∀ q : Nat, q < H.size → ¬ A1 q → H1[q]? = H[q]?) → va_S A0 H0 H1 locs1 → W p l e R s m args below meth c H1 locs1 (cells + mc) (slots + ms) Q (F0 m (pc + 3) ls (.int r :: rest))) : W p l e R s m args below meth c H locs cells slots Q (F0 m pc ls st0) := by
  intro T hT X
  rcases hr T hT X with ⟨v, st₀, t, T', L, h0, X', hL, e1, e2, ⟨⟨r, u, hv, hp, hb⟩, hF⟩, st⟩ | ⟨q, st₀, t, T', L, E, ce, h0, X', hL, e1, e2, ⟨u, hp, hb, hF⟩, hce, hcv, hcl, st⟩
  · cases hv
    obtain ⟨k1, k2, k3⟩ := vx_keep h0 e1 hS hA hf hL hF
    obtain ⟨t2, a1, b1⟩ := kk r u t T'.heap (locs ++ L) e1.symm (by rw [← e2]; exact X'.warmed.alike) hp hb k1 k2 k3 T' rfl X'
    exact ⟨t2, st t2 a1, b1⟩
  · obtain ⟨k1, k2, k3⟩ := vx_keep h0 e1 hS hAX hf hL hF
    obtain ⟨t2, a1, b1⟩ := kx E ce q u t T'.heap (locs ++ L) e1.symm (by rw [← e2]; exact X'.warmed.alike) hp hb k1 k2 k3 (by rw [e1]; exact hce) hcv hcl T' rfl X'
    exact ⟨t2, st.trans a1, b1⟩
theorem vx_calll {S SX : Type} {post : Int64 → S → Prop} {px : SX → Prop} {B : S → State → Prop} {BX : String → SX → State → Prop} {AX : Nat → Prop} (hr : vx_Run p l e R s m args below meth c H locs cells slots mc ms (F0 m pc ls st0) rest (va_Ql post B A1 a) (vx_X px BX AX) free) (hS : va_S A0 H0 H locs) (hA : ∀ q, q < H.size → A1 q → A0 q) (hf : ∀ q, free q → A0 q) (hAX : ∀ q, q < H.size → AX q → A0 q)
    (kx : ∀ (E : String) (ce : Cell) (q9 : Addr) (u : SX) (t : State) (H1 : Heap) (locs1 : List Loc), t.heap = H1 → s.vm.Alike t.vm → px u → BX E u t → H.size ≤ H1.size → (∀ q : Nat, q < H.size → ¬ AX q → H1[q]? = H[q]?) → va_S A0 H0 H1 locs1 → H1[q9]? = some ce → ce.vm = .none → s.vm.findClass E = some ce.cls → vx_W p l e R s m args below meth c H1 locs1 (cells + mc) (slots + ms) Q (F0 m pc ls rest) q9)
    (kk : ∀ (r : Int64) (u : S) (t : State) (H1 : Heap) (locs1 : List Loc), t.heap = H1 → s.vm.Alike t.vm → post r u → B u t → H.size ≤ H1.size → (∀ q : Nat, q < H.size → ¬ A1 q → H1[q]? = H[q]?) → va_S A0 H0 H1 locs1 → W p l e R s m args below meth c H1 locs1 (cells + mc) (slots + ms) Q (F0 m (pc + 3) ls (.long r :: rest))) : W p l e R s m args below meth c H locs cells slots Q (F0 m pc ls st0) := by
  intro T hT X
  rcases hr T hT X with ⟨v, st₀, t, T', L, h0, X', hL, e1, e2, ⟨⟨r, u, hv, hp, hb⟩, hF⟩, st⟩ | ⟨q, st₀, t, T', L, E, ce, h0, X', hL, e1, e2, ⟨u, hp, hb, hF⟩, hce, hcv, hcl, st⟩
  · cases hv
    obtain ⟨k1, k2, k3⟩ := vx_keep h0 e1 hS hA hf hL hF
    obtain ⟨t2, a1, b1⟩ := kk r u t T'.heap (locs ++ L) e1.symm (by rw [← e2]; exact X'.warmed.alike) hp hb k1 k2 k3 T' rfl X'
    exact ⟨t2, st t2 a1, b1⟩
  · obtain ⟨k1, k2, k3⟩ := vx_keep h0 e1 hS hAX hf hL hF
    obtain ⟨t2, a1, b1⟩ := kx E ce q u t T'.heap (locs ++ L) e1.symm (by rw [← e2]; exact X'.warmed.alike) hp hb k1 k2 k3 (by rw [e1]; exact hce) hcv hcl T' rfl X'
    exact ⟨t2, st.trans a1, b1⟩
theorem vx_callf {S SX : Type} {post : UInt32 → S → Prop} {px : SX → Prop} {B : S → State → Prop} {BX : String → SX → State → Prop} {AX : Nat → Prop} (hr : vx_Run p l e R s m args below meth c H locs cells slots mc ms (F0 m pc ls st0) rest (va_Qf post B A1 a) (vx_X px BX AX) free) (hS : va_S A0 H0 H locs) (hA : ∀ q, q < H.size → A1 q → A0 q) (hf : ∀ q, free q → A0 q) (hAX : ∀ q, q < H.size → AX q → A0 q)
    (kx : ∀ (E : String) (ce : Cell) (q9 : Addr) (u : SX) (t : State) (H1 : Heap) (locs1 : List Loc), t.heap = H1 → s.vm.Alike t.vm → px u → BX E u t → H.size ≤ H1.size → (∀ q : Nat, q < H.size → ¬ AX q → H1[q]? = H[q]?) → va_S A0 H0 H1 locs1 → H1[q9]? = some ce → ce.vm = .none → s.vm.findClass E = some ce.cls → vx_W p l e R s m args below meth c H1 locs1 (cells + mc) (slots + ms) Q (F0 m pc ls rest) q9)
    (kk : ∀ (r : UInt32) (u : S) (t : State) (H1 : Heap) (locs1 : List Loc), t.heap = H1 → s.vm.Alike t.vm → post r u → B u t → H.size ≤ H1.size → (∀ q : Nat, q < H.size → ¬ A1 q → H1[q]? = H[q]?) → va_S A0 H0 H1 locs1 → W p l e R s m args below meth c H1 locs1 (cells + mc) (slots + ms) Q (F0 m (pc + 3) ls (.float r :: rest))) : W p l e R s m args below meth c H locs cells slots Q (F0 m pc ls st0) := by
  intro T hT X
  rcases hr T hT X with ⟨v, st₀, t, T', L, h0, X', hL, e1, e2, ⟨⟨r, u, hv, hp, hb⟩, hF⟩, st⟩ | ⟨q, st₀, t, T', L, E, ce, h0, X', hL, e1, e2, ⟨u, hp, hb, hF⟩, hce, hcv, hcl, st⟩
  · cases hv
    obtain ⟨k1, k2, k3⟩ := vx_keep h0 e1 hS hA hf hL hF
    obtain ⟨t2, a1, b1⟩ := kk r u t T'.heap (locs ++ L) e1.symm (by rw [← e2]; exact X'.warmed.alike) hp hb k1 k2 k3 T' rfl X'
    exact ⟨t2, st t2 a1, b1⟩
  · obtain ⟨k1, k2, k3⟩ := vx_keep h0 e1 hS hAX hf hL hF
    obtain ⟨t2, a1, b1⟩ := kx E ce q u t T'.heap (locs ++ L) e1.symm (by rw [← e2]; exact X'.warmed.alike) hp hb k1 k2 k3 (by rw [e1]; exact hce) hcv hcl T' rfl X'
    exact ⟨t2, st.trans a1, b1⟩
theorem vx_calld {S SX : Type} {post : UInt64 → S → Prop} {px : SX → Prop} {B : S → State → Prop} {BX : String → SX → State → Prop} {AX : Nat → Prop} (hr : vx_Run p l e R s m args below meth c H locs cells slots mc ms (F0 m pc ls st0) rest (va_Qd post B A1 a) (vx_X px BX AX) free) (hS : va_S A0 H0 H locs) (hA : ∀ q, q < H.size → A1 q → A0 q) (hf : ∀ q, free q → A0 q) (hAX : ∀ q, q < H.size → AX q → A0 q)
    (kx : ∀ (E : String) (ce : Cell) (q9 : Addr) (u : SX) (t : State) (H1 : Heap) (locs1 : List Loc), t.heap = H1 → s.vm.Alike t.vm → px u → BX E u t → H.size ≤ H1.size → (∀ q : Nat, q < H.size → ¬ AX q → H1[q]? = H[q]?) → va_S A0 H0 H1 locs1 → H1[q9]? = some ce → ce.vm = .none → s.vm.findClass E = some ce.cls → vx_W p l e R s m args below meth c H1 locs1 (cells + mc) (slots + ms) Q (F0 m pc ls rest) q9)
    (kk : ∀ (r : UInt64) (u : S) (t : State) (H1 : Heap) (locs1 : List Loc), t.heap = H1 → s.vm.Alike t.vm → post r u → B u t → H.size ≤ H1.size → (∀ q : Nat, q < H.size → ¬ A1 q → H1[q]? = H[q]?) → va_S A0 H0 H1 locs1 → W p l e R s m args below meth c H1 locs1 (cells + mc) (slots + ms) Q (F0 m (pc + 3) ls (.double r :: rest))) : W p l e R s m args below meth c H locs cells slots Q (F0 m pc ls st0) := by
  intro T hT X
  rcases hr T hT X with ⟨v, st₀, t, T', L, h0, X', hL, e1, e2, ⟨⟨r, u, hv, hp, hb⟩, hF⟩, st⟩ | ⟨q, st₀, t, T', L, E, ce, h0, X', hL, e1, e2, ⟨u, hp, hb, hF⟩, hce, hcv, hcl, st⟩
  · cases hv
    obtain ⟨k1, k2, k3⟩ := vx_keep h0 e1 hS hA hf hL hF
    obtain ⟨t2, a1, b1⟩ := kk r u t T'.heap (locs ++ L) e1.symm (by rw [← e2]; exact X'.warmed.alike) hp hb k1 k2 k3 T' rfl X'
    exact ⟨t2, st t2 a1, b1⟩
  · obtain ⟨k1, k2, k3⟩ := vx_keep h0 e1 hS hAX hf hL hF
    obtain ⟨t2, a1, b1⟩ := kx E ce q u t T'.heap (locs ++ L) e1.symm (by rw [← e2]; exact X'.warmed.alike) hp hb k1 k2 k3 (by rw [e1]; exact hce) hcv hcl T' rfl X'
    exact ⟨t2, st.trans a1, b1⟩
theorem vx_callv {S SX : Type} {post : S → Prop} {px : SX → Prop} {B : S → State → Prop} {BX : String → SX → State → Prop} {AX : Nat → Prop} (hr : vx_Run p l e R s m args below meth c H locs cells slots mc ms (F0 m pc ls st0) rest (va_Qv post B A1 a) (vx_X px BX AX) free) (hS : va_S A0 H0 H locs) (hA : ∀ q, q < H.size → A1 q → A0 q) (hf : ∀ q, free q → A0 q) (hAX : ∀ q, q < H.size → AX q → A0 q)
    (kx : ∀ (E : String) (ce : Cell) (q9 : Addr) (u : SX) (t : State) (H1 : Heap) (locs1 : List Loc), t.heap = H1 → s.vm.Alike t.vm → px u → BX E u t → H.size ≤ H1.size → (∀ q : Nat, q < H.size → ¬ AX q → H1[q]? = H[q]?) → va_S A0 H0 H1 locs1 → H1[q9]? = some ce → ce.vm = .none → s.vm.findClass E = some ce.cls → vx_W p l e R s m args below meth c H1 locs1 (cells + mc) (slots + ms) Q (F0 m pc ls rest) q9)
    (kk : ∀ (u : S) (t : State) (H1 : Heap) (locs1 : List Loc), t.heap = H1 → s.vm.Alike t.vm → post u → B u t → H.size ≤ H1.size → (∀ q : Nat, q < H.size → ¬ A1 q → H1[q]? = H[q]?) → va_S A0 H0 H1 locs1 → W p l e R s m args below meth c H1 locs1 (cells + mc) (slots + ms) Q (F0 m (pc + 3) ls (rest))) : W p l e R s m args below meth c H locs cells slots Q (F0 m pc ls st0) := by
  intro T hT X
  rcases hr T hT X with ⟨v, st₀, t, T', L, h0, X', hL, e1, e2, ⟨⟨u, hv, hp, hb⟩, hF⟩, st⟩ | ⟨q, st₀, t, T', L, E, ce, h0, X', hL, e1, e2, ⟨u, hp, hb, hF⟩, hce, hcv, hcl, st⟩
  · cases hv
    obtain ⟨k1, k2, k3⟩ := vx_keep h0 e1 hS hA hf hL hF
    obtain ⟨t2, a1, b1⟩ := kk u t T'.heap (locs ++ L) e1.symm (by rw [← e2]; exact X'.warmed.alike) hp hb k1 k2 k3 T' rfl X'
    exact ⟨t2, st t2 a1, b1⟩
  · obtain ⟨k1, k2, k3⟩ := vx_keep h0 e1 hS hAX hf hL hF
    obtain ⟨t2, a1, b1⟩ := kx E ce q u t T'.heap (locs ++ L) e1.symm (by rw [← e2]; exact X'.warmed.alike) hp hb k1 k2 k3 (by rw [e1]; exact hce) hcv hcl T' rfl X'
    exact ⟨t2, st.trans a1, b1⟩
/-- caught by the row x of this method's table; the rows ahead don't take it -/
theorem vx_catch {own name : String} {E : String} {ce : Cell} {q : Addr} (hown : s.vm.findClass own = some m.cls) (pre : List ExceptionTableEntry) (x : ExceptionTableEntry) (suf : List ExceptionTableEntry) (hsplit : c.exceptionTable.toList = pre ++ x :: suf)
    (hpass : ∀ z ∈ pre, covers z pc = false ∨ (z.catchType ≠ 0 ∧ ∃ nm : String, (Cond.classLink own z.catchType nm).before args s = true ∧ va_Nc E nm s)) (hx : covers x pc = true) (h0 : x.catchType ≠ 0)
    (hlink : (Cond.classLink own x.catchType name).before args s = true) (hcast : (Cond.castable E name).before args s = true) (hcell : H[q]? = some ce) (hv : ce.vm = .none) (hcl : s.vm.findClass E = some ce.cls)
    (kk : W p l e R s m args below meth c H locs cells slots Q (F0 m x.handlerPc ls [.ref q])) : vx_W p l e R s m args below meth c H locs cells slots Q (F0 m pc ls rest) q := by
  intro T hT X
  have hpl : e.platform.magicAccessors = ({} : Platform).magicAccessors := by rw [X.admits.platform]
  obtain ⟨c3, c4, hc3, hc4, hasg⟩ := Cond.castable_spec hcast
  cases Option.some.inj (hc3.symm.trans hcl)
  obtain ⟨c5, hc5, hcl5⟩ := Cond.classLink_spec hown hlink e.platform hpl
  cases Option.some.inj (hc4.symm.trans hc5)
  obtain ⟨vm', X', st⟩ := X.thenCaughtThrough q (g := F0 m pc ls rest) rfl (Steps.refl _) (by rw [hT]; exact hcell) (by rw [hv]; rfl) (by obtain ⟨k9, h9, -⟩ := Vm.findClass_spec hcl; exact ⟨k9, h9⟩) pre x suf hsplit
    (fun z hz => by
      rcases hpass z hz with h | ⟨hz0, nm, hl1, hn1⟩
      · exact Or.inl h
      · obtain ⟨c6, hc6, hcl6⟩ := Cond.classLink_spec hown hl1 e.platform hpl
        obtain ⟨a8, b8, h1, h2, h3⟩ := hn1
        cases Option.some.inj (h1.symm.trans hcl)
        cases Option.some.inj (h2.symm.trans hc6)
        exact Or.inr ⟨hz0, _, hcl6, h3⟩) hx (Or.inr ⟨h0, c4, hcl5, hasg⟩)
  obtain ⟨t, a1, b1⟩ := kk (T.setVm vm') hT X'
  exact ⟨t, st.trans a1, b1⟩
end Rows
section Ends
variable {p : Program} {l : Launch} {e : Env} {R : Room} {s : State} {m : MethodId} {args : Array Value} {below : List Frame} {meth : Method} {c : Code} {H : Heap} {locs : List Loc} {cells slots : Nat} {Q : State → Prop}
variable {mc ms : Nat} {free : Addr → Prop} {A0 A1 : Nat → Prop} {H0 : Heap} {a : Array Value} {ls : Array Slot} {st0 rest : List Value}
variable {Qc : Array Value → State → Outcome → State → Prop} {XC : String → State → State → Prop}
/-- what a body that may throw owes at its end -/
def vx_MQ (below : List Frame) (Qc : Array Value → State → Outcome → State → Prop) (XC : String → State → State → Prop) (a : Array Value) (s : State) (mc ms : Nat) (free : Addr → Prop) : State → Prop := fun t =>
  ∃ o, t.status = .running ∧ Ended t below o ∧ vx_Q Qc XC mc ms free a s o t
theorem vx_ret {g : JFrame} {mc ms : Nat} (k : W p l e R s m args below meth c H locs cells slots (MQ below Qc args s mc ms free) g) : W p l e R s m args below meth c H locs cells slots (vx_MQ below Qc XC args s mc ms free) g := by
  intro T hT X
  obtain ⟨t, a1, o, b1, b2, b3, b4⟩ := k T hT X
  exact ⟨t, a1, o, b1, b2, Or.inl ⟨b3, b4⟩⟩
/-- not caught here: it goes on to the caller -/
theorem vx_widen {g : JFrame} {q : Addr} {k n : Nat} (h1 : cells ≤ k) (h2 : slots ≤ n) (kk : vx_W p l e R s m args below meth c H locs k n Q g q) : vx_W p l e R s m args below meth c H locs cells slots Q g q := fun T hT X => kk T hT (stand_widen X h1 h2)
theorem vx_out {pc : Nat} {E : String} {ce : Cell} {q : Addr} {mc ms : Nat} (hout : ∀ x ∈ c.exceptionTable.toList, covers x pc = false) (hlocks : meth.locks = false) (hcell : H[q]? = some ce) (hv : ce.vm = .none) (hcl : s.vm.findClass E = some ce.cls)
    (hx : ∀ t : State, t.heap = H → s.vm.Alike t.vm → XC E s t) (hf : ∀ z ∈ locs, free z.base) (hc : cells ≤ mc) (hs : slots ≤ ms) :
    vx_W p l e R s m args below meth c H locs cells slots (vx_MQ below Qc XC args s mc ms free) (F0 m pc ls rest) q := by
  intro T hT X
  obtain ⟨st1, hrun, hend, hW, hsm⟩ := X.leaveThrown q (g := F0 m pc ls rest) rfl rfl rfl hout hlocks
  have hcell9 : (T.setFrames (.throwing q :: below)).heap[q]? = some ce := by
    show T.heap[q]? = some ce
    rw [hT]; exact hcell
  exact ⟨_, st1, .threw q, hrun, hend, Or.inr ⟨q, rfl, E, ce, locs, hx _ hT hW.alike, hcell9, hv, hcl, hW, hsm.mono hc hs, hf⟩⟩
theorem vx_frame {U : State} {k n : Nat} (h : s.sameButNew ({ U with vm := s.vm } : State) locs k n) : s.heap.size ≤ U.heap.size ∧ ∀ q : Nat, q < s.heap.size → (∀ z ∈ locs, z.base ≠ q) → U.heap[q]? = s.heap[q]? := by
  obtain ⟨-, h2, -, -, -, h6⟩ := h
  refine ⟨h2, fun q hq hz => ?_⟩
  obtain ⟨c9, e1, e2, e3, e4⟩ := h6 q _ (Array.getElem?_eq_getElem hq)
  have hs : c9.slots = (s.heap[q]).slots := Array.ext_getElem? fun i => e4 i fun hm => hz _ hm rfl
  have h9 : c9 = s.heap[q] := by
    rw [hs] at e2
    exact e2
  have e5 : U.heap[q]? = some c9 := e1
  rw [e5, h9, Array.getElem?_eq_getElem hq]
/-- the words of a throw but the four that speak of the heap -/
def vx_no (w : Cond) : Bool := decide (w ≠ .isRef (.static Bundle.tN "UNASSIGNED_STACK" Bundle.steD)) && decide (w ≠ .isRef (.static Bundle.tN "SUPPRESSED_SENTINEL" Bundle.listD)) && decide (w ≠ .laysStatic Bundle.tN "UNASSIGNED_STACK" Bundle.steD) && decide (w ≠ .laysStatic Bundle.tN "SUPPRESSED_SENTINEL" Bundle.listD)
def vx_at0 (own : String) (ic : Nat) (X : String) (names : List String) : List Cond := (Bundle.ownAtoms0 own ic X names).filter vx_no
def vx_atS (own : String) (ic : Nat) (X : String) (names : List String) : List Cond := (Bundle.ownAtoms own ic X names).filter vx_no
/-- a word that the tables alone decide, or a good one -/
def vx_ot (w : Cond) : Bool := w.onTables || goodWord w
theorem vx_ot_at {args a' : Array Value} {s U : State} {w : Cond} (hW : s.WarmedH U.vm) (hvm : s.vm = U.vm) (hg : vx_ot w = true) (h : w.before args s = true) : w.before a' U = true := by
  simp only [vx_ot, Bool.or_eq_true] at hg
  rcases hg with hg | hg
  · exact va_tabs hg hvm h
  · exact word_at hW (good_of_word hg) h
/-- a list's words: the good ones out of the method's own list, the others by premises of their own -/
theorem vx_hat {args : Array Value} {s : State} {L B : List Cond} (h1 : ∀ w ∈ L.filter goodWord, w.before args s = true) (h2 : ∀ w ∈ L.filter (fun w => !goodWord w), w ∈ B) (h3 : ∀ w ∈ B, w.before args s = true) : ∀ w ∈ L, w.before args s = true := by
  intro w hw
  by_cases g : goodWord w = true
  · exact h1 w (List.mem_filter.mpr ⟨hw, g⟩)
  · refine h3 w (h2 w (List.mem_filter.mpr ⟨hw, ?_⟩))
    show (!goodWord w) = true
    cases hgw : goodWord w
    · rfl
    · exact absurd hgw g
theorem vx_c {args : Array Value} {s : State} {w : Cond} {B : List Cond} (h : w.before args s = true) (t : ∀ w ∈ B, w.before args s = true) : ∀ w' ∈ w :: B, w'.before args s = true := fun w' h' => (List.mem_cons.mp h').elim (fun e => by rw [e]; exact h) (t w')
theorem vx_n {args : Array Value} {s : State} : ∀ w ∈ ([] : List Cond), w.before args s = true := fun _ h => nomatch h
theorem vx_own {args : Array Value} {s : State} {L : List Cond} (h1 : ∀ w ∈ L.filter vx_no, w.before args s = true)
    (hU : (Cond.isRef (.static Bundle.tN "UNASSIGNED_STACK" Bundle.steD)).before args s = true) (hN : (Cond.isRef (.static Bundle.tN "SUPPRESSED_SENTINEL" Bundle.listD)).before args s = true)
    (lU : (Cond.laysStatic Bundle.tN "UNASSIGNED_STACK" Bundle.steD).before args s = true) (lN : (Cond.laysStatic Bundle.tN "SUPPRESSED_SENTINEL" Bundle.listD).before args s = true) : ∀ w ∈ L, w.before args s = true := by
  intro w hw
  by_cases e1 : w = .isRef (.static Bundle.tN "UNASSIGNED_STACK" Bundle.steD)
  · rw [e1]; exact hU
  · by_cases e2 : w = .isRef (.static Bundle.tN "SUPPRESSED_SENTINEL" Bundle.listD)
    · rw [e2]; exact hN
    · by_cases e3 : w = .laysStatic Bundle.tN "UNASSIGNED_STACK" Bundle.steD
      · rw [e3]; exact lU
      · by_cases e4 : w = .laysStatic Bundle.tN "SUPPRESSED_SENTINEL" Bundle.listD
        · rw [e4]; exact lN
        · exact h1 w (List.mem_filter.mpr ⟨hw, by unfold vx_no; rw [decide_eq_true e1, decide_eq_true e2, decide_eq_true e3, decide_eq_true e4]; rfl⟩)
/-- where a static field lies, its class's statics cell in H -/
def vx_L (C n d : String) (A : Nat → Prop) (U : State) (H : Heap) : Prop := ∃ (c : ClassId) (k : Class) (i : Nat) (f : Field) (a : Nat) (cell : Cell), U.vm.findClass C = some c ∧ U.fieldFound? C n d = some (c, k, i, f) ∧ f.isStatic = true ∧ k.statics = some a ∧ H[a]? = some cell ∧ cell.vm.isStatics = true ∧ cell.cls = c ∧ f.slot < cell.slots.size ∧ k.staticTypes[f.slot]? = some f.type ∧ ¬ A a
theorem vx_L.moved {C n d : String} {A : Nat → Prop} {u U : State} {H : Heap} (hvm : u.vm.Alike U.vm) (h : vx_L C n d A u H) : vx_L C n d A U H := by
  obtain ⟨c, k, i, f, a, cell, h1, h2, h3, h4, h5, h6, h7, h8, h9, h10⟩ := h
  obtain ⟨k', hi', he⟩ := State.fieldFound?_setVm hvm h2
  exact ⟨c, k', i, f, a, cell, by rw [hvm.findClass]; exact h1, hi', h3, by rw [he]; exact h4, h5, h6, h7, h8, by rw [he]; exact h9, h10⟩
theorem vx_L.kept {C n d : String} {A : Nat → Prop} {U : State} {H H1 : Heap} (h : vx_L C n d A U H) (hq : ∀ a : Nat, a < H.size → ¬ A a → H1[a]? = H[a]?) : vx_L C n d A U H1 := by
  obtain ⟨c, k, i, f, a, cell, h1, h2, h3, h4, h5, h6, h7, h8, h9, h10⟩ := h
  exact ⟨c, k, i, f, a, cell, h1, h2, h3, h4, by rw [hq a (Array.getElem?_eq_some_iff.mp h5).1 h10]; exact h5, h6, h7, h8, h9, h10⟩
theorem vx_L.narrow {C n d : String} {A B : Nat → Prop} {U : State} {H : Heap} (h : vx_L C n d A U H) (hAB : ∀ q, B q → A q) : vx_L C n d B U H := by
  obtain ⟨c, k, i, f, a, cell, h1, h2, h3, h4, h5, h6, h7, h8, h9, h10⟩ := h
  exact ⟨c, k, i, f, a, cell, h1, h2, h3, h4, h5, h6, h7, h8, h9, fun z => h10 (hAB _ z)⟩
theorem vx_L.word {C n d : String} {A : Nat → Prop} {s : State} {args : Array Value} (h : vx_L C n d A s s.heap) : (Cond.laysStatic C n d).before args s = true := by
  obtain ⟨c, k, i, f, a, cell, h1, h2, h3, h4, h5, h6, h7, h8, h9, -⟩ := h
  show (Cond.laysStatic C n d).holds args s none s [] = true
  exact Cond.laysStatic_of h1 h2 h3 h4 h5 h6 h7 h8 h9
/-- .. and what it holds: null or some reference -/
def vx_Zq (C n d : String) (A : Nat → Prop) (U : State) (H : Heap) : Prop := va_Zq C n d A U H ∧ vx_L C n d A U H
theorem vx_Zq.moved {C n d : String} {A : Nat → Prop} {u U : State} {H : Heap} (hvm : u.vm.Alike U.vm) (h : vx_Zq C n d A u H) : vx_Zq C n d A U H := ⟨va_Zq.moved hvm h.1, vx_L.moved hvm h.2⟩
theorem vx_Zq.kept {C n d : String} {A : Nat → Prop} {U : State} {H H1 : Heap} (h : vx_Zq C n d A U H) (hq : ∀ a : Nat, a < H.size → ¬ A a → H1[a]? = H[a]?) : vx_Zq C n d A U H1 := ⟨va_Zq.kept h.1 hq, vx_L.kept h.2 hq⟩
theorem vx_Zq.narrow {C n d : String} {A B : Nat → Prop} {U : State} {H : Heap} (h : vx_Zq C n d A U H) (hAB : ∀ q, B q → A q) : vx_Zq C n d B U H := ⟨va_Zq.narrow h.1 hAB, vx_L.narrow h.2 hAB⟩
theorem vx_Zqof {args : Array Value} {s : State} {C n d : String} {A : Nat → Prop} (hl : (Cond.laysStatic C n d).before args s = true) (hini : (Cond.initialized C).before args s = true) (h : (Cond.isRef (.static C n d)).before args s = true) (hA : ∀ a : Nat, a < s.heap.size → ¬ A a) : vx_Zq C n d A s s.heap := by
  refine ⟨va_Zqof hl hini h hA, ?_⟩
  obtain ⟨c, k, i, f, a, cell, h1, h2, h3, h4, h5, h6, h7, h8, h9⟩ := Cond.laysStatic_spec hl
  exact ⟨c, k, i, f, a, cell, h1, h2, h3, h4, h5, h6, h7, h8, h9, hA a (Array.getElem?_eq_some_iff.mp h5).1⟩
theorem vx_isRef {C n d : String} {v : Value} {A : Nat → Prop} {s : State} {args : Array Value} (h : va_Z C n d v A s s.heap) (hv : v.isRef = true) : (Cond.isRef (.static C n d)).before args s = true := by
  obtain ⟨cf, kf, fi, f, a, cell, h1, h2, h3, h4, h5, h6, h7, -⟩ := h
  have he : (Term.static C n d).eval args s none [] s = some v := by
    simp [Term.eval, State.fieldNamed?, h1, h2, h4, h5, h6, h7]
  simp only [Cond.before, Cond.holds, Cond.value, he]
  cases v <;> simp_all [Value.isRef]
theorem vx_isRefq {C n d : String} {A : Nat → Prop} {s : State} {args : Array Value} (h : va_Zq C n d A s s.heap) : (Cond.isRef (.static C n d)).before args s = true := by
  rcases h with h | ⟨t, h⟩
  · exact vx_isRef h rfl
  · exact vx_isRef h rfl
/-- the same frame, seen from here: as if the method were called anew in this heap -/
theorem vx_rebase {T : State} (X : Stand p l e R s m args below meth c T locs cells slots) {R' : Room} (hf : R'.frames ≤ R.frames) (hl : R'.locals ≤ R.locals) (hc : cells + R'.cells ≤ R.cells) (hs : slots + R'.slots ≤ R.slots) :
    Stand p l e R' ((T.setVm s.vm).setFrames (.invoking m args :: below)) m args below meth c T [] 0 0 := by
  have htop : (T.setVm s.vm).topJava?.isSome := X.here.top
  have hF : ((T.setVm s.vm).setFrames (.invoking m args :: below)).frames = .invoking m args :: below := State.frames_setFrames _ (State.cur_lt_of_top htop)
  obtain ⟨g₀, hg0⟩ := Option.isSome_iff_exists.mp htop
  obtain ⟨r, hr⟩ := State.topJava?_eq_some.mp hg0
  have hl9 : e.platform.stackLimits (T.setVm s.vm).me = e.platform.stackLimits s.me := X.limits
  have hb9 : (T.setVm s.vm).me.stackBytes = s.me.stackBytes := X.bytes
  refine ⟨X.admits, X.cas, X.clock, hF, ?_, X.hears, X.method, X.code, X.here, X.tail, X.warmed, ?_, ?_, ?_⟩
  · have h := X.room
    have hU : ((T.setVm s.vm).setFrames (.invoking m args :: below)).localsInUse = s.localsInUse := by
      rw [State.localsInUse_invoking hF (meth := meth) (c := c) X.method X.code, State.localsInUse_invoking X.frames X.method X.code]
    simp only [State.hasRoom, Bool.and_eq_true, decide_eq_true_eq] at h ⊢
    obtain ⟨⟨⟨⟨h1, h2, h3, h4, h5, h6⟩, h7⟩, h8⟩, h9⟩ := h
    rw [X.frames, List.length_cons] at h2 h3
    have q1 := X.heapSize
    have q2 := X.used
    simp only [hF, hU, List.length_cons, State.stackLimits_setFrames, State.stackBytes_setFrames, hl9, hb9]
    refine ⟨⟨⟨⟨by omega, by omega, by omega, by omega, by omega, h6⟩, ?_⟩, ?_⟩, X.book⟩
    · show T.heap.size + R'.cells ≤ e.platform.maxCells
      omega
    · show T.slotsUsed + R'.slots ≤ e.platform.maxSlots
      omega
  · rw [State.stackLimits_setFrames]; rfl
  · rw [State.stackBytes_setFrames]; rfl
  · refine ⟨?_, Nat.le_refl _, Nat.le_refl _, ?_, ?_, fun a c9 h9 => ⟨c9, h9, rfl, rfl, fun _ _ => rfl⟩⟩
    · obtain ⟨t, ht, -⟩ := State.frames_cons hr
      show T.setVm s.vm = { ((T.setVm s.vm).setFrames (.invoking m args :: below)).setFrames (T.setVm s.vm).frames with heap := T.heap, slotsUsed := T.slotsUsed }
      rw [State.setFrames_setFrames, State.setFrames_self ht]
      rfl
    · show T.slotsUsed = T.slotsUsed + ((T.heap.toList.drop T.heap.size).map (·.slots.size)).sum
      rw [List.drop_eq_nil_of_le (Nat.le_of_eq Array.length_toList)]
      rfl
    · show ((T.heap.toList.drop T.heap.size).map (·.slots.size)).sum ≤ 0
      rw [List.drop_eq_nil_of_le (Nat.le_of_eq Array.length_toList)]
      exact Nat.le_refl _
/-- 'throw new E()': new; dup; invokespecial; athrow -/
theorem vx_throw0 {cc : ByteArray} {pc : Nat} (hexec : p.tables.exec = Jvm.exec) (hb : c.code = cc) (hl : l.stackTraces = false) {own cls : String} {names : List String} {ik ic mc ms : Nat} {A : Nat → Prop}
    (hown : s.vm.findClass own = some m.cls) (hcls : Bundle.fit cls = true) (hnames : ∀ n ∈ names, Bundle.fit n = true)
    (hk : (Cond.classLink own ik cls).before args s = true) (hini : (Cond.initialized cls).before args s = true) (hat : ∀ w ∈ vx_at0 own ic cls names, w.before args s = true)
    (hgood : ∀ w ∈ Cond.classLink own ik cls :: Cond.initialized cls :: vx_at0 own ic cls names, vx_ot w = true)
    (hU : vx_Zq Bundle.tN "UNASSIGNED_STACK" Bundle.steD A s s.heap) (hN : vx_Zq Bundle.tN "SUPPRESSED_SENTINEL" Bundle.listD A s s.heap) (hS : va_S A s.heap H locs) (hsize : ls.size = c.maxLocals)
    (d0 : decode cc pc = .ok (.new ik, 3)) (d3 : decode cc (pc + 3) = .ok (.dup, 1)) (d4 : decode cc (pc + 4) = .ok (.invokespecial ic, 3)) (d7 : decode cc (pc + 7) = .ok (.athrow, 1))
    (hout : ∀ x ∈ c.exceptionTable.toList, covers x (pc + 7) = false)
    (hRframes : names.length + 3 < R.frames) (hRlocals : (rest.map fun v => v.category).sum + (13 * (names.length + 1) + 42) ≤ R.locals) (hRcells : cells + 1 ≤ R.cells) (hRslots : slots + 6 ≤ R.slots) (hlocks : meth.locks = false)
    (hx : ∀ t : State, s.vm.Alike t.vm → H.size ≤ t.heap.size → (∀ q : Nat, q < H.size → t.heap[q]? = H[q]?) → XC cls s t)
    (hf : ∀ z ∈ locs, free z.base) (hc : cells + 1 ≤ mc) (hs : slots + 6 ≤ ms) :
    W p l e R s m args below meth c H locs cells slots (vx_MQ below Qc XC args s mc ms free) (F0 m pc ls rest) := by
  intro T hT X
  have htr : e.platform.stackTraces = false := (show e.platform.stackTraces = l.stackTraces by rw [X.admits.platform]).trans hl
  have Y := vx_rebase X (R' := { frames := R.frames, locals := R.locals, cells := 1, slots := 6 }) (Nat.le_refl _) (Nat.le_refl _) hRcells hRslots
  obtain ⟨s', hA⟩ : ∃ z, z = (T.setVm s.vm).setFrames (.invoking m args :: below) := ⟨_, rfl⟩
  rw [← hA] at Y
  have hvm : s'.vm = s.vm := by rw [hA]; rfl
  have hhp : s'.heap = H := by rw [hA]; exact hT
  have hW0 : s.WarmedH s'.vm := by rw [hvm]; exact State.WarmedH.refl s
  have hat' : ∀ w ∈ vx_at0 own ic cls names, w.before args s' = true := fun w hw => vx_ot_at hW0 hvm.symm (hgood w (List.mem_cons_of_mem _ (List.mem_cons_of_mem _ hw))) (hat w hw)
  have hk' : (Cond.classLink own ik cls).before args s' = true := vx_ot_at hW0 hvm.symm (hgood _ List.mem_cons_self) hk
  have hini' : (Cond.initialized cls).before args s' = true := vx_ot_at hW0 hvm.symm (hgood _ (List.mem_cons_of_mem _ List.mem_cons_self)) hini
  have hU' : vx_Zq Bundle.tN "UNASSIGNED_STACK" Bundle.steD A s' s'.heap := by rw [hhp]; exact vx_Zq.moved hW0.alike (hU.kept hS.2.1)
  have hN' : vx_Zq Bundle.tN "SUPPRESSED_SENTINEL" Bundle.listD A s' s'.heap := by rw [hhp]; exact vx_Zq.moved hW0.alike (hN.kept hS.2.1)
  have h : ∀ w ∈ Bundle.ownAtoms0 own ic cls names, w.before args s' = true := vx_own hat' (vx_isRefq hU'.1) (vx_isRefq hN'.1) hU'.2.word hN'.2.word
  have hown' : s'.vm.findClass own = some m.cls := by rw [hvm]; exact hown
  have hins : (Cond.instantiable cls 6).before args s' = true := h _ (by simp [Bundle.ownAtoms0])
  obtain ⟨vm₁, cX, kX, hfX, hkX, -, -, X₁, st1⟩ := Y.newCold hexec (own := own) (C := cls) (index := ik) (n := 6) hown' hk' hins hini'
    (g := F0 m pc ls rest) rfl (by rw [hb]; exact d0) (Nat.le_refl _) (Nat.le_refl _)
  generalize hT1 : (T.setVm vm₁).pushCell { cls := cX, slots := kX.instanceTypes.map defaultValue, vm := .none } = T1 at X₁ st1
  have hcat : (Value.ref T.heap.size).category = 1 := rfl
  have hcellA : T1.heap[T.heap.size]? = some (freshCell cX kX) := by rw [← hT1]; exact State.heap_pushCell_size _ _
  have d3' : decode c.code (pc + 3) = .ok (.dup, 1) := by rw [hb]; exact d3
  obtain ⟨U, hsteps, hrun, hend, hW, hsame, ce, hce, hO⟩ := X₁.ctorThrow0 hexec htr (own := own) (cls := cls) (names := names) (ic := ic) hown' hcls hnames h (fun x hx => nomatch hx) hfX hkX hcellA (by rw [hhp, hT]; exact Nat.le_refl _)
    (g := { method := m, pc := pc + 4, locals := ls, stack := .ref T.heap.size :: .ref T.heap.size :: rest, locked := none }) rfl hsize rfl rfl (rest := rest) rfl
    (by rw [hb]; exact d4) (by rw [hb]; exact d7) hout hRframes (by simp only [List.map_cons, List.sum_cons, hcat]; omega) hlocks
  obtain ⟨f1, f2⟩ := vx_frame hsame
  rw [hhp] at f1 f2
  have hWs : s.WarmedH U.vm := State.WarmedH.trans hW0 hW
  have hcl : s.vm.findClass cls = some ce.cls := by
    have h9 := hO.cls
    rw [hvm] at h9
    exact h9
  have hall : s.sameButNew ({ U with vm := s.vm } : State) locs mc ms := by
    subst hA
    obtain ⟨e1, e2⟩ := hsame
    rw [State.setFrames_setFrames] at e1
    have h2 : (T.setVm s.vm).sameButNew ({ U with vm := s.vm } : State) [] (0 + 1) (0 + 6) := ⟨e1, e2⟩
    have h3 := X.same.trans h2
    rw [List.append_nil] at h3
    exact h3.mono hc hs
  refine ⟨U, ?_, .threw T.heap.size, hrun, hend, Or.inr ⟨T.heap.size, rfl, cls, ce, locs, hx U hWs.alike f1 (fun q hq => f2 q hq (fun z hz => nomatch hz)), hce, hO.vm, hcl, hWs, hall, hf⟩⟩
  refine st1 _ ?_
  show Steps p.tables e below (T1.setTop { method := m, pc := pc + 3, locals := ls, stack := .ref T.heap.size :: rest, locked := none }) _
  jvm_step X₁.here [X₁.here.top, hexec, d3', Value.category]
  exact hsteps
/-- 'throw new E("text")': new; dup; ldc; invokespecial; athrow -/
theorem vx_throwS {cc : ByteArray} {pc : Nat} (hexec : p.tables.exec = Jvm.exec) (hb : c.code = cc) (hl : l.stackTraces = false) {own cls text : String} {names : List String} {ik is ic mc ms sa : Nat} {A : Nat → Prop}
    (hown : s.vm.findClass own = some m.cls) (hcls : Bundle.fit cls = true) (hnames : ∀ n ∈ names, Bundle.fit n = true)
    (hk : (Cond.classLink own ik cls).before args s = true) (hini : (Cond.initialized cls).before args s = true) (hstr : vk_R own is text sa s) (hat : ∀ w ∈ vx_atS own ic cls names, w.before args s = true)
    (hgood : ∀ w ∈ Cond.classLink own ik cls :: Cond.initialized cls :: vx_atS own ic cls names, vx_ot w = true)
    (hU : vx_Zq Bundle.tN "UNASSIGNED_STACK" Bundle.steD A s s.heap) (hN : vx_Zq Bundle.tN "SUPPRESSED_SENTINEL" Bundle.listD A s s.heap) (hS : va_S A s.heap H locs) (hsize : ls.size = c.maxLocals)
    (d0 : decode cc pc = .ok (.new ik, 3)) (d3 : decode cc (pc + 3) = .ok (.dup, 1)) (d4 : decode cc (pc + 4) = .ok (.ldc is, 2)) (d6 : decode cc (pc + 6) = .ok (.invokespecial ic, 3)) (d9 : decode cc (pc + 9) = .ok (.athrow, 1))
    (hout : ∀ x ∈ c.exceptionTable.toList, covers x (pc + 9) = false)
    (hRframes : names.length + 3 < R.frames) (hRlocals : (rest.map fun v => v.category).sum + (13 * (names.length + 1) + 43) ≤ R.locals) (hRcells : cells + 1 ≤ R.cells) (hRslots : slots + 6 ≤ R.slots) (hlocks : meth.locks = false)
    (hx : ∀ t : State, s.vm.Alike t.vm → H.size ≤ t.heap.size → (∀ q : Nat, q < H.size → t.heap[q]? = H[q]?) → XC cls s t)
    (hf : ∀ z ∈ locs, free z.base) (hc : cells + 1 ≤ mc) (hs : slots + 6 ≤ ms) :
    W p l e R s m args below meth c H locs cells slots (vx_MQ below Qc XC args s mc ms free) (F0 m pc ls rest) := by
  intro T hT X
  have htr : e.platform.stackTraces = false := (show e.platform.stackTraces = l.stackTraces by rw [X.admits.platform]).trans hl
  have Y := vx_rebase X (R' := { frames := R.frames, locals := R.locals, cells := 1, slots := 6 }) (Nat.le_refl _) (Nat.le_refl _) hRcells hRslots
  obtain ⟨s', hA⟩ : ∃ z, z = (T.setVm s.vm).setFrames (.invoking m args :: below) := ⟨_, rfl⟩
  rw [← hA] at Y
  have hvm : s'.vm = s.vm := by rw [hA]; rfl
  have hhp : s'.heap = H := by rw [hA]; exact hT
  have hW0 : s.WarmedH s'.vm := by rw [hvm]; exact State.WarmedH.refl s
  have hat' : ∀ w ∈ vx_atS own ic cls names, w.before args s' = true := fun w hw => vx_ot_at hW0 hvm.symm (hgood w (List.mem_cons_of_mem _ (List.mem_cons_of_mem _ hw))) (hat w hw)
  have hk' : (Cond.classLink own ik cls).before args s' = true := vx_ot_at hW0 hvm.symm (hgood _ List.mem_cons_self) hk
  have hini' : (Cond.initialized cls).before args s' = true := vx_ot_at hW0 hvm.symm (hgood _ (List.mem_cons_of_mem _ List.mem_cons_self)) hini
  have hU' : vx_Zq Bundle.tN "UNASSIGNED_STACK" Bundle.steD A s' s'.heap := by rw [hhp]; exact vx_Zq.moved hW0.alike (hU.kept hS.2.1)
  have hN' : vx_Zq Bundle.tN "SUPPRESSED_SENTINEL" Bundle.listD A s' s'.heap := by rw [hhp]; exact vx_Zq.moved hW0.alike (hN.kept hS.2.1)
  have h : ∀ w ∈ Bundle.ownAtoms own ic cls names, w.before args s' = true := vx_own hat' (vx_isRefq hU'.1) (vx_isRefq hN'.1) hU'.2.word hN'.2.word
  have hown' : s'.vm.findClass own = some m.cls := by rw [hvm]; exact hown
  have hins : (Cond.instantiable cls 6).before args s' = true := h _ (by simp [Bundle.ownAtoms])
  obtain ⟨vm₁, cX, kX, hfX, hkX, -, -, X₁, st1⟩ := Y.newCold hexec (own := own) (C := cls) (index := ik) (n := 6) hown' hk' hins hini'
    (g := F0 m pc ls rest) rfl (by rw [hb]; exact d0) (Nat.le_refl _) (Nat.le_refl _)
  generalize hT1 : (T.setVm vm₁).pushCell { cls := cX, slots := kX.instanceTypes.map defaultValue, vm := .none } = T1 at X₁ st1
  have hcat : (Value.ref T.heap.size).category = 1 := rfl
  have hcellA : T1.heap[T.heap.size]? = some (freshCell cX kX) := by rw [← hT1]; exact State.heap_pushCell_size _ _
  have d3' : decode c.code (pc + 3) = .ok (.dup, 1) := by rw [hb]; exact d3
  have d4' : decode c.code (pc + 4) = .ok (.ldc is, 2) := by rw [hb]; exact d4
  have hstr' : vk_R own is text sa s' := vk_R.warm hW0 hstr
  obtain ⟨U, hsteps, hrun, hend, hW, hsame, ce, hce, hO⟩ := X₁.ctorThrowS hexec htr (own := own) (cls := cls) (names := names) (ic := ic) hown' hcls hnames h (fun x hx => nomatch hx) hfX hkX hcellA (by rw [hhp, hT]; exact Nat.le_refl _) (msg := .ref sa) rfl
    (g := { method := m, pc := pc + 6, locals := ls, stack := .ref sa :: .ref T.heap.size :: .ref T.heap.size :: rest, locked := none }) rfl hsize rfl rfl (rest := rest) rfl
    (by rw [hb]; exact d6) (by rw [hb]; exact d9) hout hRframes (by simp only [List.map_cons, List.sum_cons, hcat]; omega) hlocks
  obtain ⟨f1, f2⟩ := vx_frame hsame
  rw [hhp] at f1 f2
  have hWs : s.WarmedH U.vm := State.WarmedH.trans hW0 hW
  have hcl : s.vm.findClass cls = some ce.cls := by
    have h9 := hO.cls
    rw [hvm] at h9
    exact h9
  have hall : s.sameButNew ({ U with vm := s.vm } : State) locs mc ms := by
    subst hA
    obtain ⟨e1, e2⟩ := hsame
    rw [State.setFrames_setFrames] at e1
    have h2 : (T.setVm s.vm).sameButNew ({ U with vm := s.vm } : State) [] (0 + 1) (0 + 6) := ⟨e1, e2⟩
    have h3 := X.same.trans h2
    rw [List.append_nil] at h3
    exact h3.mono hc hs
  refine ⟨U, ?_, .threw T.heap.size, hrun, hend, Or.inr ⟨T.heap.size, rfl, cls, ce, locs, hx U hWs.alike f1 (fun q hq => f2 q hq (fun z hz => nomatch hz)), hce, hO.vm, hcl, hWs, hall, hf⟩⟩
  refine st1 _ ?_
  show Steps p.tables e below (T1.setTop { method := m, pc := pc + 3, locals := ls, stack := .ref T.heap.size :: rest, locked := none }) _
  jvm_step X₁.here [X₁.here.top, hexec, d3', Value.category]
  exact X₁.ldcString hexec (own := own) (text := text) (index := is) (a := sa) hown' hstr'.1 hstr'.2
    (g := { method := m, pc := pc + 4, locals := ls, stack := .ref T.heap.size :: .ref T.heap.size :: rest, locked := none }) rfl d4' _ hsteps
/-- 'throw new E("text")', the text by a wide index -/
theorem vx_throwSW {cc : ByteArray} {pc : Nat} (hexec : p.tables.exec = Jvm.exec) (hb : c.code = cc) (hl : l.stackTraces = false) {own cls text : String} {names : List String} {ik is ic mc ms sa : Nat} {A : Nat → Prop}
    (hown : s.vm.findClass own = some m.cls) (hcls : Bundle.fit cls = true) (hnames : ∀ n ∈ names, Bundle.fit n = true)
    (hk : (Cond.classLink own ik cls).before args s = true) (hini : (Cond.initialized cls).before args s = true) (hstr : vk_R own is text sa s) (hat : ∀ w ∈ vx_atS own ic cls names, w.before args s = true)
    (hgood : ∀ w ∈ Cond.classLink own ik cls :: Cond.initialized cls :: vx_atS own ic cls names, vx_ot w = true)
    (hU : vx_Zq Bundle.tN "UNASSIGNED_STACK" Bundle.steD A s s.heap) (hN : vx_Zq Bundle.tN "SUPPRESSED_SENTINEL" Bundle.listD A s s.heap) (hS : va_S A s.heap H locs) (hsize : ls.size = c.maxLocals)
    (d0 : decode cc pc = .ok (.new ik, 3)) (d3 : decode cc (pc + 3) = .ok (.dup, 1)) (d4 : decode cc (pc + 4) = .ok (.ldc_w is, 3)) (d7 : decode cc (pc + 7) = .ok (.invokespecial ic, 3)) (d10 : decode cc (pc + 10) = .ok (.athrow, 1))
    (hout : ∀ x ∈ c.exceptionTable.toList, covers x (pc + 10) = false)
    (hRframes : names.length + 3 < R.frames) (hRlocals : (rest.map fun v => v.category).sum + (13 * (names.length + 1) + 43) ≤ R.locals) (hRcells : cells + 1 ≤ R.cells) (hRslots : slots + 6 ≤ R.slots) (hlocks : meth.locks = false)
    (hx : ∀ t : State, s.vm.Alike t.vm → H.size ≤ t.heap.size → (∀ q : Nat, q < H.size → t.heap[q]? = H[q]?) → XC cls s t)
    (hf : ∀ z ∈ locs, free z.base) (hc : cells + 1 ≤ mc) (hs : slots + 6 ≤ ms) :
    W p l e R s m args below meth c H locs cells slots (vx_MQ below Qc XC args s mc ms free) (F0 m pc ls rest) := by
  intro T hT X
  have htr : e.platform.stackTraces = false := (show e.platform.stackTraces = l.stackTraces by rw [X.admits.platform]).trans hl
  have Y := vx_rebase X (R' := { frames := R.frames, locals := R.locals, cells := 1, slots := 6 }) (Nat.le_refl _) (Nat.le_refl _) hRcells hRslots
  obtain ⟨s', hA⟩ : ∃ z, z = (T.setVm s.vm).setFrames (.invoking m args :: below) := ⟨_, rfl⟩
  rw [← hA] at Y
  have hvm : s'.vm = s.vm := by rw [hA]; rfl
  have hhp : s'.heap = H := by rw [hA]; exact hT
  have hW0 : s.WarmedH s'.vm := by rw [hvm]; exact State.WarmedH.refl s
  have hat' : ∀ w ∈ vx_atS own ic cls names, w.before args s' = true := fun w hw => vx_ot_at hW0 hvm.symm (hgood w (List.mem_cons_of_mem _ (List.mem_cons_of_mem _ hw))) (hat w hw)
  have hk' : (Cond.classLink own ik cls).before args s' = true := vx_ot_at hW0 hvm.symm (hgood _ List.mem_cons_self) hk
  have hini' : (Cond.initialized cls).before args s' = true := vx_ot_at hW0 hvm.symm (hgood _ (List.mem_cons_of_mem _ List.mem_cons_self)) hini
  have hU' : vx_Zq Bundle.tN "UNASSIGNED_STACK" Bundle.steD A s' s'.heap := by rw [hhp]; exact vx_Zq.moved hW0.alike (hU.kept hS.2.1)
  have hN' : vx_Zq Bundle.tN "SUPPRESSED_SENTINEL" Bundle.listD A s' s'.heap := by rw [hhp]; exact vx_Zq.moved hW0.alike (hN.kept hS.2.1)
  have h : ∀ w ∈ Bundle.ownAtoms own ic cls names, w.before args s' = true := vx_own hat' (vx_isRefq hU'.1) (vx_isRefq hN'.1) hU'.2.word hN'.2.word
  have hown' : s'.vm.findClass own = some m.cls := by rw [hvm]; exact hown
  have hins : (Cond.instantiable cls 6).before args s' = true := h _ (by simp [Bundle.ownAtoms])
  obtain ⟨vm₁, cX, kX, hfX, hkX, -, -, X₁, st1⟩ := Y.newCold hexec (own := own) (C := cls) (index := ik) (n := 6) hown' hk' hins hini'
    (g := F0 m pc ls rest) rfl (by rw [hb]; exact d0) (Nat.le_refl _) (Nat.le_refl _)
  generalize hT1 : (T.setVm vm₁).pushCell { cls := cX, slots := kX.instanceTypes.map defaultValue, vm := .none } = T1 at X₁ st1
  have hcat : (Value.ref T.heap.size).category = 1 := rfl
  have hcellA : T1.heap[T.heap.size]? = some (freshCell cX kX) := by rw [← hT1]; exact State.heap_pushCell_size _ _
  have d3' : decode c.code (pc + 3) = .ok (.dup, 1) := by rw [hb]; exact d3
  have d4' : decode c.code (pc + 4) = .ok (.ldc_w is, 3) := by rw [hb]; exact d4
  have hstr' : vk_R own is text sa s' := vk_R.warm hW0 hstr
  obtain ⟨U, hsteps, hrun, hend, hW, hsame, ce, hce, hO⟩ := X₁.ctorThrowS hexec htr (own := own) (cls := cls) (names := names) (ic := ic) hown' hcls hnames h (fun x hx => nomatch hx) hfX hkX hcellA (by rw [hhp, hT]; exact Nat.le_refl _) (msg := .ref sa) rfl
    (g := { method := m, pc := pc + 7, locals := ls, stack := .ref sa :: .ref T.heap.size :: .ref T.heap.size :: rest, locked := none }) rfl hsize rfl rfl (rest := rest) rfl
    (by rw [hb]; exact d7) (by rw [hb]; exact d10) hout hRframes (by simp only [List.map_cons, List.sum_cons, hcat]; omega) hlocks
  obtain ⟨f1, f2⟩ := vx_frame hsame
  rw [hhp] at f1 f2
  have hWs : s.WarmedH U.vm := State.WarmedH.trans hW0 hW
  have hcl : s.vm.findClass cls = some ce.cls := by
    have h9 := hO.cls
    rw [hvm] at h9
    exact h9
  have hall : s.sameButNew ({ U with vm := s.vm } : State) locs mc ms := by
    subst hA
    obtain ⟨e1, e2⟩ := hsame
    rw [State.setFrames_setFrames] at e1
    have h2 : (T.setVm s.vm).sameButNew ({ U with vm := s.vm } : State) [] (0 + 1) (0 + 6) := ⟨e1, e2⟩
    have h3 := X.same.trans h2
    rw [List.append_nil] at h3
    exact h3.mono hc hs
  refine ⟨U, ?_, .threw T.heap.size, hrun, hend, Or.inr ⟨T.heap.size, rfl, cls, ce, locs, hx U hWs.alike f1 (fun q hq => f2 q hq (fun z hz => nomatch hz)), hce, hO.vm, hcl, hWs, hall, hf⟩⟩
  refine st1 _ ?_
  show Steps p.tables e below (T1.setTop { method := m, pc := pc + 3, locals := ls, stack := .ref T.heap.size :: rest, locked := none }) _
  jvm_step X₁.here [X₁.here.top, hexec, d3', Value.category]
  exact X₁.ldcStringW hexec (own := own) (text := text) (index := is) (a := sa) hown' hstr'.1 hstr'.2
    (g := { method := m, pc := pc + 4, locals := ls, stack := .ref T.heap.size :: .ref T.heap.size :: rest, locked := none }) rfl d4' _ hsteps
end Ends
section Bodies
variable {l : Launch}
theorem vx_ofW {y : MethodName} {ws ws' : List Cond} {rm : Room} {Pc : Array Value → State → Prop} {Qc : Array Value → State → Outcome → State → Prop} {XC : String → State → State → Prop} {mc ms : Nat} {free : Addr → Prop} {cc : ByteArray} {maxL : Nat} {ret : Option FieldType}
    (hy : plainName y.cls = true) (hw : ws = Cond.code y cc maxL ret :: ws')
    (body : ∀ p e s m args below meth c s₁, BodyLoose p l y (headSpec ws rm) cc maxL ret e s m args below meth c s₁ → c.maxLocals = maxL → (∀ x ∈ c.exceptionTable.toList, False) → Pc args s →
      W p l e (headSpec ws rm).room s m args below meth c s.heap [] 0 0 (vx_MQ below Qc XC args s mc ms free) (entryFrame m args maxL)) : vx_Met l y ws rm Pc Qc XC mc ms free := by
  refine MetFree.of_bodyS (code := cc) (maxLocals := maxL) (ret := ret) hy ?_ ?_
  · intro args s m h hn
    obtain ⟨meth, c, h1, h2, h3, h4, h5, h6, -, -⟩ := Cond.code_spec hn (atoms_spec (ws := ws) h _ (by rw [hw]; exact List.mem_cons_self))
    exact ⟨meth, c, h1, h2, h3, h4, h5, h6⟩
  · intro p e s m args below meth c s₁ B hml hP _
    have hh0 : s₁.heap = s.heap := by rw [B.state]; rfl
    have ht : ∀ x ∈ c.exceptionTable.toList, False := by
      obtain ⟨meth9, c9, h1, h2, -, -, -, -, h7, -⟩ := Cond.code_spec B.named (atoms_spec (ws := ws) B.pre _ (by rw [hw]; exact List.mem_cons_self))
      cases Option.some.inj (h1.symm.trans B.method)
      cases Option.some.inj (h2.symm.trans (Stand.of_body B).code)
      intro x hx
      rw [Array.isEmpty_iff.mp h7] at hx
      cases hx
    obtain ⟨t, a1, o, b1, b2, b3⟩ := body p e s m args below meth c s₁ B hml ht hP s₁ hh0 (Stand.of_body B)
    exact ⟨t, o, a1, b1, b2, b3⟩
/-- the table of a body with handlers -/
theorem vx_table {p : Program} {x y : MethodName} {S : Spec} {cc bytes : ByteArray} {maxL maxL' : Nat} {ret ret' : Option FieldType} {e : Env} {s s₁ : State} {m : MethodId} {args : Array Value} {below : List Frame} {meth : Method} {c : Code} {hh : List (Nat × Nat × Nat × Nat)}
    (B : BodyLoose p l y S cc maxL ret e s m args below meth c s₁) (h : (Cond.codeWith y bytes maxL' ret' hh).before args s = true) : c.exceptionTable.toList = tableOf hh := by
  obtain ⟨m9, meth9, c9, hn9, h1, h2, -, -, h6, -⟩ := Cond.codeWith_spec h
  cases Option.some.inj (hn9.symm.trans B.named)
  cases Option.some.inj (h1.symm.trans B.method)
  cases Option.some.inj (h2.symm.trans (Stand.of_body B).code)
  rw [← h6, table_eq]
end Bodies
end VXA
/-! ===== END ===== -/
/-! ===== BEGIN a static call of a method with an exception table ===== -/
section VXS
variable {p : Program} {l : Launch} {e : Env} {R : Room} {s : State} {m : MethodId} {args : Array Value} {below : List Frame} {meth : Method} {c : Code} {T : State} {H : Heap} {locs : List Loc} {cells slots : Nat}
abbrev vx_CSW (R : Room) (s : State) (args : Array Value) (own : String) (index : Nat) (y : MethodName) (bytes : ByteArray) (maxL : Nat) (ret : Option FieldType) (hh : List (Nat × Nat × Nat × Nat)) (ws : List Cond) (rm : Room) (mc ms n : Nat) : Prop :=
  (rm.cells = mc ∧ rm.slots = ms ∧ rm.frames + 1 ≤ R.frames ∧ 8 + (maxL + 11) + rm.locals ≤ R.locals ∧ (∀ w ∈ ws, ∀ (a' : Array Value) (U : State), s.WarmedH U.vm → w.before a' U = true) ∧ Cond.codeWith y bytes maxL ret hh ∈ ws) ∧
  (Cond.codeWith y bytes maxL ret hh).before args s = true ∧ (Cond.initialized y.cls).before args s = true ∧ (y.cls ≠ "java/lang/invoke/MethodHandle" ∧ y.cls ≠ "java/lang/invoke/VarHandle") ∧
  (∀ sig, parseMethodDescriptor y.desc = some sig → n = sig.parameters.length) ∧ (Cond.methodLink own index y).before args s = true ∧ (Cond.static y).before args s = true
theorem vx_cwSW {own : String} {index maxL mc ms : Nat} {y : MethodName} {bytes : ByteArray} {ret : Option FieldType} {hh : List (Nat × Nat × Nat × Nat)} {Ts ws ws' : List Cond} {rm : Room} (n : Nat) (ht : ∀ w ∈ Ts, w.before args s = true) (hT : GoodIn Ts (va_wsS own index y ws)) (hw : ws = Cond.codeWith y bytes maxL ret hh :: ws') (hrc : rm.cells = mc) (hrs : rm.slots = ms)
    (hd : y.cls ≠ "java/lang/invoke/MethodHandle" ∧ y.cls ≠ "java/lang/invoke/VarHandle" ∧ (parseMethodDescriptor y.desc).map (fun d => d.parameters.length) = some n) (hR : rm.frames + 1 ≤ R.frames ∧ 8 + (maxL + 11) + rm.locals ≤ R.locals) :
    vx_CSW R s args own index y bytes maxL ret hh ws rm mc ms n := by
  have ok : ∀ w ∈ va_wsS own index y ws, w.before args s = true := fun w h => ht w (hT w h).1
  have hG : GoodIn Ts ws := fun w h => hT w (by unfold va_wsS; exact List.mem_append_right _ h)
  have hc : Cond.codeWith y bytes maxL ret hh ∈ ws := by rw [hw]; exact List.mem_cons_self
  refine ⟨⟨hrc, hrs, hR.1, hR.2, pay_in ht hG, hc⟩, ht _ (hG _ hc).1, ok _ (by simp [va_wsS]), ⟨hd.1, hd.2.1⟩, fun sig h => ?_, ok _ (by simp [va_wsS]), ok _ (by simp [va_wsS])⟩
  have h2 := hd.2.2
  rw [h] at h2
  exact (Option.some.inj h2).symm
theorem vx_callSW (X : Stand p l e R s m args below meth c T locs cells slots) (hexec : p.tables.exec = Jvm.exec) {own : String} {index : Nat} {y : MethodName} {bytes : ByteArray} {maxL : Nat} {ret : Option FieldType} {hh : List (Nat × Nat × Nat × Nat)}
    (hown : s.vm.findClass own = some m.cls) (hlink : (Cond.methodLink own index y).before args s = true) (hstat : (Cond.static y).before args s = true) (hinit : (Cond.initialized y.cls).before args s = true)
    (hcode : (Cond.codeWith y bytes maxL ret hh).before args s = true) (hy : y.cls ≠ "java/lang/invoke/MethodHandle" ∧ y.cls ≠ "java/lang/invoke/VarHandle")
    {W9 : Nat} {Pre : Pt → Array Value → Prop} {Post : Pt → Array Value → Option Value → Pt → Prop} (hK : Back l R p e below s args y 3 W9 Pre Post)
    {g : JFrame} (hg : g.method = m) (hsize : g.locals.size = c.maxLocals) {argsL rest : List Value} (hlen : ∀ sig, parseMethodDescriptor y.desc = some sig → argsL.length = sig.parameters.length)
    (hstack : g.stack = argsL.reverse ++ rest) (hW : 2 * g.monitorRoom + (rest.map fun v => v.category).sum ≤ W9) (hdg : decode c.code g.pc = .ok (.invokestatic index, 3))
    (hpre : ∀ vm₁, s.WarmedH vm₁ → Pre ⟨T.setVm vm₁, locs, cells, slots⟩ argsL.toArray) :
    ∃ (v : Option Value) (vm₁ : Vm) (B : Pt), s.WarmedH vm₁ ∧ Stand p l e R s m args below meth c B.U B.locs B.cells B.slots ∧ Post ⟨T.setVm vm₁, locs, cells, slots⟩ argsL.toArray v B ∧
      ∀ target, Steps p.tables e below (B.U.setTop { g with pc := g.pc + 3, stack := v.toList ++ rest }) target → Steps p.tables e below (T.setTop g) target := by
  obtain ⟨mk, methM, cM, hnamed, hmethM, -, -, -, -, -, -, hsigM⟩ := Cond.codeWith_spec hcode
  have hstatic : methM.isStatic = true := Cond.static_spec hnamed hmethM hstat
  obtain ⟨kP, hkP, -⟩ := className_of_methodNamed hnamed
  have hinitP : kP.init = .initialized := Cond.initialized_spec (findClass_of_methodNamed hnamed) hkP hinit
  obtain ⟨vm₁, X₁, hstep₁⟩ := X.invokestatic hexec hown hlink hnamed hmethM hstatic hkP hinitP hy (g := g) hg (argsL := argsL) (rest := rest) (hlen _ hsigM) hstack hdg
  obtain ⟨v, B, X', hpost, hsteps⟩ := hK m meth c ⟨T.setVm vm₁, locs, cells, slots⟩ { g with stack := rest } (.invokestatic index) mk argsL.toArray X₁ hg hsize hdg hW (X₁.named hnamed) (hpre vm₁ X₁.warmed)
  exact ⟨v, vm₁, B, X₁.warmed, X', hpost, fun target h => hstep₁ _ fun acts => by rw [doInvoke_state]; exact hsteps.trans h⟩
theorem vx_runSW {y : MethodName} {bytes cc : ByteArray} {maxL nL mc ms n index : Nat} {ret : Option FieldType} {hh : List (Nat × Nat × Nat × Nat)} {ws : List Cond} {rm : Room} {Pc : Array Value → State → Prop} {Qc : Array Value → State → Outcome → State → Prop} {free : Addr → Prop} {Ts : List Cond} {own : String} {As rest : List Value} {g : JFrame}
    (S : CallFix p m c cc nL s args Ts own) (hM : Met l y ws rm Pc Qc mc ms free) (cw : vx_CSW R s args own index y bytes maxL ret hh ws rm mc ms n) (hp : PreS s H Pc As)
    (hg : g.method = m) (hn : As.length = n) (hsize : g.locals.size = nL) (hstack : g.stack = As.reverse ++ rest) (hW : 2 * g.monitorRoom + (rest.map fun v => v.category).sum ≤ 8) (hdg : decode cc g.pc = .ok (.invokestatic index, 3)) (hf : cells + mc ≤ R.cells ∧ slots + ms ≤ R.slots) :
    va_Run p l e R s m args below meth c H locs cells slots mc ms g rest (Qc As.toArray) (free) := by
  obtain ⟨⟨hrc, hrs, hfr, hlo, hws, hcw⟩, hcode, hini, hy, hlen, hl, hstt⟩ := cw
  have hK : Back l R p e below s args y 3 8 (PreOf R mc ms Pc) (PostOf Qc mc ms free) := va_backW (hh := hh) (bytes := bytes) (maxL := maxL) (ret := ret) hM hp.1 hrc hrs hfr hlo hws hcw (fun a' U hW => word_at hW (Or.inl (by first | rfl | simp [Cond.onTables, Cond.keeps, Cond.steady])) hini)
  obtain ⟨hx, hb, hml, ho, -⟩ := S
  intro T hT X
  obtain ⟨v, vm₁, ⟨U', l2, c2, s2⟩, hW₁, X', ⟨g', mk, t, L, e1, e2, hq, h1, hL, h2, h3⟩, st⟩ := vx_callSW X hx (hh := hh) (bytes := bytes) (maxL := maxL) (ret := ret) ho hl hstt hini hcode hy hK hg (hsize.trans hml.symm) (argsL := As) (rest := rest) (fun sig h => hn.trans (hlen sig h)) hstack hW (by rw [hb]; exact hdg)
    (fun vm₁ hW₁ => ⟨hf.1, hf.2, hp.2 (T.setVm vm₁) hT hW₁⟩)
  dsimp only [Pt.U, Pt.locs, Pt.cells, Pt.slots] at X' e1 e2 h1 h2 h3 st
  subst h1; subst h2; subst h3
  exact ⟨v, (T.setVm vm₁).calling g' mk As.toArray, t, U', L, hT, X', hL, e1, e2, hq, st⟩
/-- not caught here, past rows that name other classes: it goes on to the caller -/
theorem vx_outP {p : Program} {l : Launch} {e : Env} {R : Room} {s : State} {m : MethodId} {args : Array Value} {below : List Frame} {meth : Method} {c : Code} {H : Heap} {locs : List Loc} {cells slots : Nat} {free : Addr → Prop} {ls : Array Slot} {rest : List Value} {Qc : Array Value → State → Outcome → State → Prop} {XC : String → State → State → Prop}
    {pc : Nat} {own E : String} {ce : Cell} {q : Addr} {mc ms : Nat} (hown : s.vm.findClass own = some m.cls) (hlocks : meth.locks = false)
    (hpass : ∀ z ∈ c.exceptionTable.toList, covers z pc = false ∨ (z.catchType ≠ 0 ∧ ∃ nm : String, (Cond.classLink own z.catchType nm).before args s = true ∧ va_Nc E nm s)) (hcell : H[q]? = some ce) (hv : ce.vm = .none) (hcl : s.vm.findClass E = some ce.cls)
    (hx : ∀ t : State, t.heap = H → s.vm.Alike t.vm → XC E s t) (hf : ∀ z ∈ locs, free z.base) (hc : cells ≤ mc) (hs : slots ≤ ms) :
    vx_W p l e R s m args below meth c H locs cells slots (vx_MQ below Qc XC args s mc ms free) (F0 m pc ls rest) q := by
  intro T hT X
  have hpl : e.platform.magicAccessors = ({} : Platform).magicAccessors := by rw [X.admits.platform]
  obtain ⟨vm', hW', X', st⟩ := X.outThrough hlocks q (g := F0 m pc ls rest) rfl rfl rfl (cell := ce) (by rw [hT]; exact hcell) (by rw [hv]; rfl)
    (by obtain ⟨k9, h9, -⟩ := Vm.findClass_spec hcl; exact ⟨k9, h9⟩) (fun z hz => by
      rcases hpass z hz with h | ⟨hz0, nm, hl1, hn1⟩
      · exact Or.inl h
      · obtain ⟨c6, hc6, hcl6⟩ := Cond.classLink_spec hown hl1 e.platform hpl
        obtain ⟨a8, b8, h1, h2, h3⟩ := hn1
        cases Option.some.inj (h1.symm.trans hcl)
        cases Option.some.inj (h2.symm.trans hc6)
        exact Or.inr ⟨hz0, _, hcl6, h3⟩)
  obtain ⟨g₀, hfr⟩ := X'.frames_eq
  have hcell9 : ((T.setVm vm').setFrames (.throwing q :: below)).heap[q]? = some ce := by
    show T.heap[q]? = some ce
    rw [hT]; exact hcell
  have hend : Ended ((T.setVm vm').setFrames (.throwing q :: below)) below (.threw q) := State.frames_setFrames _ (State.cur_lt_of_frames hfr)
  refine ⟨(T.setVm vm').setFrames (.throwing q :: below), ?_, .threw q, X'.here.running, hend, Or.inr ⟨q, rfl, E, ce, locs, hx _ hT (X'.ends _).1.alike, hcell9, hv, hcl, (X'.ends _).1, (X'.ends _).2.mono hc hs, hf⟩⟩
  rw [X.pushThrowing_eq]
  exact st
/-- a thing of a world lies in the heap -/
theorem vx_lt {D : va_G} {cl : List vw_C} {ws : va_W} {H1 : Heap} (h : va_P D cl ws H1) {k : Nat} {q : Nat × va_E} (hk : ws[k]? = some q) : q.1 < H1.size := (h k q hk).lt
end VXS
/-! ===== END ===== -/
/-! ===== BEGIN methods with a table of their own: called by a name, returning or throwing ===== -/
section VXH
/-! vx_backW, vx_callVX, vx_callSX, vx_callVW, vx_runVW, vx_runVX, vx_runSX, vx_ofWH follow the same proofs as their sisters above (Free/Laws.lean, Shelf42/LK1.lean); vx_outP calls Shelf42/NT130.lean (outThrough). -/
section
variable {l : Launch} {R : Room} {p : Program} {e : Env} {below : List Frame} {s : State} {sargs : Array Value} {y : MethodName} {len W9 : Nat}
theorem vx_backW {ws : List Cond} {rm : Room} {Pc : Array Value → State → Prop} {Qc : Array Value → State → Outcome → State → Prop} {XC : String → State → State → Prop} {mc ms : Nat} {free : Addr → Prop} {bytes : ByteArray} {maxL : Nat} {ret : Option FieldType} {hh : List (Nat × Nat × Nat × Nat)}
    (hM : vx_Met l y ws rm Pc Qc XC mc ms free) (hblind : FrameBlind Pc) (hrc : rm.cells = mc) (hrs : rm.slots = ms)
    (hframes : rm.frames + 1 ≤ R.frames) (hlocals : W9 + (maxL + 11) + rm.locals ≤ R.locals)
    (hws : ∀ w ∈ ws, ∀ a' U, s.WarmedH U.vm → w.before a' U = true) (hcode : Cond.codeWith y bytes maxL ret hh ∈ ws) (hinit : ∀ a' U, s.WarmedH U.vm → (Cond.initialized y.cls).before a' U = true) :
    vx_Back l R p e below s sargs y len W9 (PreOf R mc ms Pc) (PostOf Qc mc ms free) (vx_Post XC mc ms free) := by
  intro m meth c A g ig mk a X hg hsize hdg hW hn hp
  have h1 : (headSpec ws rm).pre.before a A.U = true := atoms_intro fun w hw => hws w hw _ _ X.warmed
  have h2 : (Cond.codeWith y bytes maxL ret hh).before a A.U = true := hws _ hcode _ _ X.warmed
  have h3 : (Cond.initialized y.cls).before a A.U = true := hinit _ _ X.warmed
  have h4 : A.cells + (headSpec ws rm).room.cells ≤ R.cells := by rw [show (headSpec ws rm).room.cells = mc from hrc]; exact hp.1
  have h5 : A.slots + (headSpec ws rm).room.slots ≤ R.slots := by rw [show (headSpec ws rm).room.slots = ms from hrs]; exact hp.2.1
  have hPc : Pc a (A.U.calling g mk a) := hblind _ _ _ _ hp.2.2
  obtain ⟨U, Ls, c0, s0⟩ := A
  dsimp only [Pt.U, Pt.locs, Pt.cells, Pt.slots] at h1 h2 h3 h4 h5 X hn hPc ⊢
  obtain ⟨m9, methY, cY, hn9, hmY, hcY, -, hlY, -⟩ := Cond.codeWith_spec h2
  cases Option.some.inj (hn9.symm.trans hn)
  obtain ⟨kY, hkY, -⟩ := className_of_methodNamed hn
  have hinitY : kY.init = .initialized := Cond.initialized_spec (findClass_of_methodNamed hn) hkY h3
  have h : At U g.method c below := by rw [hg]; exact X.here
  have hlocals9 : W9 + (maxL + 11) + (headSpec ws rm).room.locals ≤ R.locals := hlocals
  have happ : (headSpec ws rm).appliesLoose y e.platform (U.calling g mk a) = true :=
    Spec.appliesLoose_calling (g := g) h hdg hn hkY hinitY
      (X.room_calling (g := g) (R' := (headSpec ws rm).room) hsize hmY hcY hframes (by rw [hlY]; omega) h4 h5) h1
  obtain ⟨mid, hmid⟩ := h.above
  have hfr : (U.setTop g).frames = (.java g :: mid) ++ below := by rw [State.frames_setTop' g h.top, hmid]; rfl
  obtain ⟨o, s₂, hsteps, -, hend, hq⟩ := Steps.callFree hM p X.admits X.cas X.clock (acts := []) hfr happ hPc trivial
  have hq' : vx_Q Qc XC mc ms free a (U.calling g mk a) o s₂ := hq
  rw [State.frames_setTop' g h.top] at hend
  obtain ⟨g₀, hg0⟩ := Option.isSome_iff_exists.mp h.top
  obtain ⟨r, hr⟩ := State.topJava?_eq_some.mp hg0
  have hr' : (({ U with heap := s₂.heap, slotsUsed := s₂.slotsUsed } : State).setVm s₂.vm).frames = .java g₀ :: r := hr
  rcases hq' with ⟨hqc, L, hfe, hL⟩ | ⟨q, rfl, E, ce, L, hx, hce, hcv, hcl, hW₂, hsm, hL⟩
  · obtain ⟨⟨v, rfl⟩, hW₂, e2, q2, q3, q4, q5, q6⟩ := id hfe
    have e3 : s₂ = ({ (U.calling g mk a).setFrames s₂.frames with heap := s₂.heap, slotsUsed := s₂.slotsUsed } : State).setVm s₂.vm := by
      have : s₂ = ({ s₂ with vm := (U.calling g mk a).vm } : State).setVm s₂.vm := rfl
      rw [e2] at this
      exact this
    obtain ⟨c₂, i₂, len₂, hc₂, hd₂, hf₂⟩ := hend
    have hW' : U.WarmedH s₂.vm := hW₂
    have hcc : c₂ = c := by
      have h1 : s₂.code? g.method = U.code? g.method := by
        rw [State.code?_eq, State.code?_eq, hW'.alike.method?]
      exact Option.some.inj (hc₂.symm.trans (h1.trans h.code))
    subst hcc
    have hlen : len₂ = len := by rw [hdg] at hd₂; cases hd₂; rfl
    subst hlen
    have hs₂ : s₂ = (({ U with heap := s₂.heap, slotsUsed := s₂.slotsUsed } : State).setVm s₂.vm).setTop { g with pc := g.pc + len₂, stack := v.toList ++ g.stack } := by
      refine e3.trans ?_
      rw [hf₂, State.calling_eq h.top, State.setFrames_setFrames, State.setTop_of_frames _ hr', hr]
      rfl
    have hsame : U.sameButNew ({ U with heap := s₂.heap, slotsUsed := s₂.slotsUsed } : State) L mc ms := by
      refine ⟨?_, q2, q3, q4, q5, q6⟩
      obtain ⟨t, ht, -⟩ := State.frames_cons hr
      show ({ U with heap := s₂.heap, slotsUsed := s₂.slotsUsed } : State) = { U.setFrames U.frames with heap := s₂.heap, slotsUsed := s₂.slotsUsed }
      rw [State.setFrames_self ht]
    subst hg
    refine Or.inl ⟨v, ⟨(({ U with heap := s₂.heap, slotsUsed := s₂.slotsUsed } : State).setVm s₂.vm), Ls ++ L, c0 + mc, s0 + ms⟩,
      ⟨X.admits, X.cas, X.clock, X.frames, X.room, X.hears, X.method, X.code, (X.here.setHeapUsed s₂.heap s₂.slotsUsed).setVm hW'.alike, X.tail, State.WarmedH.trans X.warmed hW', X.limits, X.bytes, X.same.trans (hsame.setVm s.vm)⟩,
      ⟨g, mk, s₂, L, rfl, rfl, hqc, rfl, hL, rfl, rfl⟩, ?_⟩
    show Steps p.tables e below _ ((({ U with heap := s₂.heap, slotsUsed := s₂.slotsUsed } : State).setVm s₂.vm).setTop { g with pc := g.pc + len₂, stack := v.toList ++ g.stack })
    rw [← hs₂]
    exact hsteps
  · obtain ⟨e2, q2, q3, q4, q5, q6⟩ := id hsm
    have e3 : s₂ = ({ (U.calling g mk a).setFrames s₂.frames with heap := s₂.heap, slotsUsed := s₂.slotsUsed } : State).setVm s₂.vm := by
      have : s₂ = ({ s₂ with vm := (U.calling g mk a).vm } : State).setVm s₂.vm := rfl
      rw [e2] at this
      exact this
    have hf₂ : s₂.frames = .throwing q :: .java g :: U.frames.tail := hend
    have hW' : U.WarmedH s₂.vm := hW₂
    have hs₂ : s₂ = ((({ U with heap := s₂.heap, slotsUsed := s₂.slotsUsed } : State).setVm s₂.vm).setTop g).pushFrame (.throwing q) := by
      refine e3.trans ?_
      rw [hf₂, State.calling_eq h.top, State.setFrames_setFrames, State.pushFrame, State.frames_setTop _ hr', State.setTop_of_frames _ hr', State.setFrames_setFrames, hr]
      rfl
    have hsame : U.sameButNew ({ U with heap := s₂.heap, slotsUsed := s₂.slotsUsed } : State) L mc ms := by
      refine ⟨?_, q2, q3, q4, q5, q6⟩
      obtain ⟨t, ht, -⟩ := State.frames_cons hr
      show ({ U with heap := s₂.heap, slotsUsed := s₂.slotsUsed } : State) = { U.setFrames U.frames with heap := s₂.heap, slotsUsed := s₂.slotsUsed }
      rw [State.setFrames_self ht]
    subst hg
    refine Or.inr ⟨q, ⟨(({ U with heap := s₂.heap, slotsUsed := s₂.slotsUsed } : State).setVm s₂.vm), Ls ++ L, c0 + mc, s0 + ms⟩,
      ⟨X.admits, X.cas, X.clock, X.frames, X.room, X.hears, X.method, X.code, (X.here.setHeapUsed s₂.heap s₂.slotsUsed).setVm hW'.alike, X.tail, State.WarmedH.trans X.warmed hW', X.limits, X.bytes, X.same.trans (hsame.setVm s.vm)⟩,
      ⟨g, mk, s₂, L, E, ce, rfl, rfl, hx, hce, hcv, hcl, rfl, hL, rfl, rfl⟩, ?_⟩
    show Steps p.tables e below _ (((({ U with heap := s₂.heap, slotsUsed := s₂.slotsUsed } : State).setVm s₂.vm).setTop g).pushFrame (.throwing q))
    rw [← hs₂]
    exact hsteps
end
variable {p : Program} {l : Launch} {e : Env} {R : Room} {s : State} {m : MethodId} {args : Array Value} {below : List Frame} {meth : Method} {c : Code} {T : State} {H : Heap} {locs : List Loc} {cells slots : Nat}
theorem vx_callVX (X : Stand p l e R s m args below meth c T locs cells slots) (hexec : p.tables.exec = Jvm.exec) {own C : String} {index : Nat} {y : MethodName} {bytes : ByteArray} {maxL : Nat} {ret : Option FieldType} {hh : List (Nat × Nat × Nat × Nat)}
    (hown : s.vm.findClass own = some m.cls) (hlink : (Cond.methodLink own index y).before args s = true) (hinst : (Cond.instanceMethod y).before args s = true) (hsel : (Cond.selects C y y).before args s = true)
    (hcode : (Cond.codeWith y bytes maxL ret hh).before args s = true) (hy : y.cls ≠ "java/lang/invoke/MethodHandle" ∧ y.cls ≠ "java/lang/invoke/VarHandle")
    {W9 : Nat} {Pre : Pt → Array Value → Prop} {Post : Pt → Array Value → Option Value → Pt → Prop} {PostX : Pt → Array Value → Addr → Pt → Prop} (hK : vx_Back l R p e below s args y 3 W9 Pre Post PostX)
    {b : Addr} {cellB : Cell} (hcell : T.heap[b]? = some cellB) (hobj : cellB.vm.isStatics = false) (hcls : s.vm.findClass C = some cellB.cls)
    {g : JFrame} (hg : g.method = m) (hsize : g.locals.size = c.maxLocals) {argsL rest : List Value} (hlen : ∀ sig, parseMethodDescriptor y.desc = some sig → argsL.length = sig.parameters.length)
    (hstack : g.stack = argsL.reverse ++ .ref b :: rest) (hW : 2 * g.monitorRoom + (rest.map fun v => v.category).sum ≤ W9) (hdg : decode c.code g.pc = .ok (.invokevirtual index, 3))
    (hpre : ∀ vm₁, s.WarmedH vm₁ → Pre ⟨T.setVm vm₁, locs, cells, slots⟩ (Value.ref b :: argsL).toArray) :
    (∃ (v : Option Value) (vm₁ : Vm) (B : Pt), s.WarmedH vm₁ ∧ Stand p l e R s m args below meth c B.U B.locs B.cells B.slots ∧ Post ⟨T.setVm vm₁, locs, cells, slots⟩ (Value.ref b :: argsL).toArray v B ∧
      ∀ target, Steps p.tables e below (B.U.setTop { g with pc := g.pc + 3, stack := v.toList ++ rest }) target → Steps p.tables e below (T.setTop g) target) ∨
    (∃ (q : Addr) (vm₁ : Vm) (B : Pt), s.WarmedH vm₁ ∧ Stand p l e R s m args below meth c B.U B.locs B.cells B.slots ∧ PostX ⟨T.setVm vm₁, locs, cells, slots⟩ (Value.ref b :: argsL).toArray q B ∧
      Steps p.tables e below (T.setTop g) ((B.U.setTop { g with stack := rest }).pushFrame (.throwing q))) := by
  obtain ⟨mk, methM, hnamed, hmethM, hstM, habM⟩ := Cond.instanceMethod_spec hinst
  obtain ⟨m8, methM', cM, hn8, hmethM', -, -, -, -, -, -, hsigM⟩ := Cond.codeWith_spec hcode
  cases Option.some.inj (hn8.symm.trans hnamed)
  cases hmethM.symm.trans hmethM'
  obtain ⟨c2, r2, m2, q1, q2, q3, q4, kP, hkP, hkPi⟩ := Cond.selects_spec hsel
  cases hcls.symm.trans q1
  cases (State.methodFound?_of_named hnamed hy).symm.trans q2
  cases hnamed.symm.trans q3
  have hselP : selectMethod e.platform s.vm cellB.cls mk = .method mk := by rw [Launch.admits_selectMethod X.admits]; exact q4
  obtain ⟨vm₁, X₁, hstep₁⟩ := X.invokevirtual hexec hown hlink hnamed hmethM hstM hkP hkPi hy (a := b) (cell := cellB) hcell
    (fun z h => by rw [h] at hobj; cases hobj) hselP hmethM habM hkP hkPi (g := g) hg (argsL := argsL) (rest := rest) (hlen _ hsigM) hstack hdg
  rcases hK m meth c ⟨T.setVm vm₁, locs, cells, slots⟩ { g with stack := rest } (.invokevirtual index) mk (Value.ref b :: argsL).toArray X₁ hg hsize hdg hW (X₁.named hnamed) (hpre vm₁ X₁.warmed) with ⟨v, B, X', hpost, hsteps⟩ | ⟨q, B, X', hpost, hsteps⟩
  · exact Or.inl ⟨v, vm₁, B, X₁.warmed, X', hpost, fun target h => hstep₁ _ fun acts => by rw [doInvoke_state]; exact hsteps.trans h⟩
  · exact Or.inr ⟨q, vm₁, B, X₁.warmed, X', hpost, hstep₁ _ fun acts => by rw [doInvoke_state]; exact hsteps⟩
theorem vx_callSX (X : Stand p l e R s m args below meth c T locs cells slots) (hexec : p.tables.exec = Jvm.exec) {own : String} {index : Nat} {y : MethodName} {bytes : ByteArray} {maxL : Nat} {ret : Option FieldType} {hh : List (Nat × Nat × Nat × Nat)}
    (hown : s.vm.findClass own = some m.cls) (hlink : (Cond.methodLink own index y).before args s = true) (hstat : (Cond.static y).before args s = true) (hinit : (Cond.initialized y.cls).before args s = true)
    (hcode : (Cond.codeWith y bytes maxL ret hh).before args s = true) (hy : y.cls ≠ "java/lang/invoke/MethodHandle" ∧ y.cls ≠ "java/lang/invoke/VarHandle")
    {W9 : Nat} {Pre : Pt → Array Value → Prop} {Post : Pt → Array Value → Option Value → Pt → Prop} {PostX : Pt → Array Value → Addr → Pt → Prop} (hK : vx_Back l R p e below s args y 3 W9 Pre Post PostX)
    {g : JFrame} (hg : g.method = m) (hsize : g.locals.size = c.maxLocals) {argsL rest : List Value} (hlen : ∀ sig, parseMethodDescriptor y.desc = some sig → argsL.length = sig.parameters.length)
    (hstack : g.stack = argsL.reverse ++ rest) (hW : 2 * g.monitorRoom + (rest.map fun v => v.category).sum ≤ W9) (hdg : decode c.code g.pc = .ok (.invokestatic index, 3))
    (hpre : ∀ vm₁, s.WarmedH vm₁ → Pre ⟨T.setVm vm₁, locs, cells, slots⟩ argsL.toArray) :
    (∃ (v : Option Value) (vm₁ : Vm) (B : Pt), s.WarmedH vm₁ ∧ Stand p l e R s m args below meth c B.U B.locs B.cells B.slots ∧ Post ⟨T.setVm vm₁, locs, cells, slots⟩ argsL.toArray v B ∧
      ∀ target, Steps p.tables e below (B.U.setTop { g with pc := g.pc + 3, stack := v.toList ++ rest }) target → Steps p.tables e below (T.setTop g) target) ∨
    (∃ (q : Addr) (vm₁ : Vm) (B : Pt), s.WarmedH vm₁ ∧ Stand p l e R s m args below meth c B.U B.locs B.cells B.slots ∧ PostX ⟨T.setVm vm₁, locs, cells, slots⟩ argsL.toArray q B ∧
      Steps p.tables e below (T.setTop g) ((B.U.setTop { g with stack := rest }).pushFrame (.throwing q))) := by
  obtain ⟨mk, methM, cM, hnamed, hmethM, -, -, -, -, -, -, hsigM⟩ := Cond.codeWith_spec hcode
  have hstatic : methM.isStatic = true := Cond.static_spec hnamed hmethM hstat
  obtain ⟨kP, hkP, -⟩ := className_of_methodNamed hnamed
  have hinitP : kP.init = .initialized := Cond.initialized_spec (findClass_of_methodNamed hnamed) hkP hinit
  obtain ⟨vm₁, X₁, hstep₁⟩ := X.invokestatic hexec hown hlink hnamed hmethM hstatic hkP hinitP hy (g := g) hg (argsL := argsL) (rest := rest) (hlen _ hsigM) hstack hdg
  rcases hK m meth c ⟨T.setVm vm₁, locs, cells, slots⟩ { g with stack := rest } (.invokestatic index) mk argsL.toArray X₁ hg hsize hdg hW (X₁.named hnamed) (hpre vm₁ X₁.warmed) with ⟨v, B, X', hpost, hsteps⟩ | ⟨q, B, X', hpost, hsteps⟩
  · exact Or.inl ⟨v, vm₁, B, X₁.warmed, X', hpost, fun target h => hstep₁ _ fun acts => by rw [doInvoke_state]; exact hsteps.trans h⟩
  · exact Or.inr ⟨q, vm₁, B, X₁.warmed, X', hpost, hstep₁ _ fun acts => by rw [doInvoke_state]; exact hsteps⟩
theorem vx_callVW (X : Stand p l e R s m args below meth c T locs cells slots) (hexec : p.tables.exec = Jvm.exec) {own C : String} {index : Nat} {y : MethodName} {bytes : ByteArray} {maxL : Nat} {ret : Option FieldType} {hh : List (Nat × Nat × Nat × Nat)}
    (hown : s.vm.findClass own = some m.cls) (hlink : (Cond.methodLink own index y).before args s = true) (hinst : (Cond.instanceMethod y).before args s = true) (hsel : (Cond.selects C y y).before args s = true)
    (hcode : (Cond.codeWith y bytes maxL ret hh).before args s = true) (hy : y.cls ≠ "java/lang/invoke/MethodHandle" ∧ y.cls ≠ "java/lang/invoke/VarHandle")
    {W9 : Nat} {Pre : Pt → Array Value → Prop} {Post : Pt → Array Value → Option Value → Pt → Prop} (hK : Back l R p e below s args y 3 W9 Pre Post)
    {b : Addr} {cellB : Cell} (hcell : T.heap[b]? = some cellB) (hobj : cellB.vm.isStatics = false) (hcls : s.vm.findClass C = some cellB.cls)
    {g : JFrame} (hg : g.method = m) (hsize : g.locals.size = c.maxLocals) {argsL rest : List Value} (hlen : ∀ sig, parseMethodDescriptor y.desc = some sig → argsL.length = sig.parameters.length)
    (hstack : g.stack = argsL.reverse ++ .ref b :: rest) (hW : 2 * g.monitorRoom + (rest.map fun v => v.category).sum ≤ W9) (hdg : decode c.code g.pc = .ok (.invokevirtual index, 3))
    (hpre : ∀ vm₁, s.WarmedH vm₁ → Pre ⟨T.setVm vm₁, locs, cells, slots⟩ (Value.ref b :: argsL).toArray) :
    ∃ (v : Option Value) (vm₁ : Vm) (B : Pt), s.WarmedH vm₁ ∧ Stand p l e R s m args below meth c B.U B.locs B.cells B.slots ∧ Post ⟨T.setVm vm₁, locs, cells, slots⟩ (Value.ref b :: argsL).toArray v B ∧
      ∀ target, Steps p.tables e below (B.U.setTop { g with pc := g.pc + 3, stack := v.toList ++ rest }) target → Steps p.tables e below (T.setTop g) target := by
  obtain ⟨mk, methM, hnamed, hmethM, hstM, habM⟩ := Cond.instanceMethod_spec hinst
  obtain ⟨m8, methM', cM, hn8, hmethM', -, -, -, -, -, -, hsigM⟩ := Cond.codeWith_spec hcode
  cases Option.some.inj (hn8.symm.trans hnamed)
  cases hmethM.symm.trans hmethM'
  obtain ⟨c2, r2, m2, q1, q2, q3, q4, kP, hkP, hkPi⟩ := Cond.selects_spec hsel
  cases hcls.symm.trans q1
  cases (State.methodFound?_of_named hnamed hy).symm.trans q2
  cases hnamed.symm.trans q3
  have hselP : selectMethod e.platform s.vm cellB.cls mk = .method mk := by rw [Launch.admits_selectMethod X.admits]; exact q4
  obtain ⟨vm₁, X₁, hstep₁⟩ := X.invokevirtual hexec hown hlink hnamed hmethM hstM hkP hkPi hy (a := b) (cell := cellB) hcell
    (fun z h => by rw [h] at hobj; cases hobj) hselP hmethM habM hkP hkPi (g := g) hg (argsL := argsL) (rest := rest) (hlen _ hsigM) hstack hdg
  obtain ⟨v, B, X', hpost, hsteps⟩ := hK m meth c ⟨T.setVm vm₁, locs, cells, slots⟩ { g with stack := rest } (.invokevirtual index) mk (Value.ref b :: argsL).toArray X₁ hg hsize hdg hW (X₁.named hnamed) (hpre vm₁ X₁.warmed)
  exact ⟨v, vm₁, B, X₁.warmed, X', hpost, fun target h => hstep₁ _ fun acts => by rw [doInvoke_state]; exact hsteps.trans h⟩
abbrev vx_CVW (R : Room) (s : State) (args : Array Value) (own C : String) (index : Nat) (y : MethodName) (bytes : ByteArray) (maxL : Nat) (ret : Option FieldType) (hh : List (Nat × Nat × Nat × Nat)) (ws : List Cond) (rm : Room) (mc ms n : Nat) : Prop :=
  (rm.cells = mc ∧ rm.slots = ms ∧ rm.frames + 1 ≤ R.frames ∧ 8 + (maxL + 11) + rm.locals ≤ R.locals ∧ (∀ w ∈ ws, ∀ (a' : Array Value) (U : State), s.WarmedH U.vm → w.before a' U = true) ∧ Cond.codeWith y bytes maxL ret hh ∈ ws) ∧
  (Cond.codeWith y bytes maxL ret hh).before args s = true ∧ (Cond.initialized y.cls).before args s = true ∧ (y.cls ≠ "java/lang/invoke/MethodHandle" ∧ y.cls ≠ "java/lang/invoke/VarHandle") ∧
  (∀ sig, parseMethodDescriptor y.desc = some sig → n = sig.parameters.length) ∧ (Cond.methodLink own index y).before args s = true ∧ (Cond.instanceMethod y).before args s = true ∧ (Cond.selects C y y).before args s = true
theorem vx_cwVW {own C : String} {index maxL mc ms : Nat} {y : MethodName} {bytes : ByteArray} {ret : Option FieldType} {hh : List (Nat × Nat × Nat × Nat)} {Ts ws ws' : List Cond} {rm : Room} (n : Nat) (ht : ∀ w ∈ Ts, w.before args s = true) (hT : GoodIn Ts (wsV own index C y ws)) (hw : ws = Cond.codeWith y bytes maxL ret hh :: ws') (hrc : rm.cells = mc) (hrs : rm.slots = ms)
    (hd : y.cls = C ∧ y.cls ≠ "java/lang/invoke/MethodHandle" ∧ y.cls ≠ "java/lang/invoke/VarHandle" ∧ (parseMethodDescriptor y.desc).map (fun d => d.parameters.length) = some n) (hR : rm.frames + 1 ≤ R.frames ∧ 8 + (maxL + 11) + rm.locals ≤ R.locals) :
    vx_CVW R s args own C index y bytes maxL ret hh ws rm mc ms n := by
  obtain ⟨hC, hd⟩ := hd
  subst hC
  have ok : ∀ w ∈ wsV own index y.cls y ws, w.before args s = true := fun w h => ht w (hT w h).1
  have hG : GoodIn Ts ws := fun w h => hT w (by unfold wsV; exact List.mem_append_right _ h)
  have hc : Cond.codeWith y bytes maxL ret hh ∈ ws := by rw [hw]; exact List.mem_cons_self
  refine ⟨⟨hrc, hrs, hR.1, hR.2, pay_in ht hG, hc⟩, ht _ (hG _ hc).1, ok _ (by simp [wsV]), ⟨hd.1, hd.2.1⟩, fun sig h => ?_, ok _ (by simp [wsV]), ok _ (by simp [wsV]), ok _ (by simp [wsV])⟩
  have h2 := hd.2.2
  rw [h] at h2
  exact (Option.some.inj h2).symm
theorem vx_runVW {y : MethodName} {bytes cc : ByteArray} {maxL nL mc ms n index : Nat} {ret : Option FieldType} {hh : List (Nat × Nat × Nat × Nat)} {ws : List Cond} {rm : Room} {Pc : Array Value → State → Prop} {Qc : Array Value → State → Outcome → State → Prop} {free : Addr → Prop} {Ts : List Cond} {own C : String} {b : Addr} {As rest : List Value} {g : JFrame}
    (S : CallFix p m c cc nL s args Ts own) (hM : Met l y ws rm Pc Qc mc ms free) (cw : vx_CVW R s args own C index y bytes maxL ret hh ws rm mc ms n) (hp : PreV s H C b Pc As)
    (hg : g.method = m) (hn : As.length = n) (hsize : g.locals.size = nL) (hstack : g.stack = As.reverse ++ .ref b :: rest) (hW : 2 * g.monitorRoom + (rest.map fun v => v.category).sum ≤ 8) (hdg : decode cc g.pc = .ok (.invokevirtual index, 3)) (hf : cells + mc ≤ R.cells ∧ slots + ms ≤ R.slots) :
    va_Run p l e R s m args below meth c H locs cells slots mc ms g rest (Qc (Value.ref b :: As).toArray) free := by
  obtain ⟨⟨hrc, hrs, hfr, hlo, hws, hcw⟩, hcode, hini, hy, hlen, hl, hin, hse⟩ := cw
  have hK : Back l R p e below s args y 3 8 (PreOf R mc ms Pc) (PostOf Qc mc ms free) := va_backW (hh := hh) (bytes := bytes) (maxL := maxL) (ret := ret) hM hp.1 hrc hrs hfr hlo hws hcw (fun a' U hW => word_at hW (Or.inl (by first | rfl | simp [Cond.onTables, Cond.keeps, Cond.steady])) hini)
  obtain ⟨hx, hb, hml, ho, -⟩ := S
  obtain ⟨-, ⟨cellB, hcB, hoB, hclB⟩, hPc⟩ := hp
  intro T hT X
  obtain ⟨v, vm₁, ⟨U', l2, c2, s2⟩, hW₁, X', ⟨g', mk, t, L, e1, e2, hq, h1, hL, h2, h3⟩, st⟩ := vx_callVW X hx (C := C) (hh := hh) (bytes := bytes) (maxL := maxL) (ret := ret) ho hl hin hse hcode hy hK (by rw [hT]; exact hcB) hoB hclB hg (hsize.trans hml.symm) (argsL := As) (rest := rest) (fun sig h => hn.trans (hlen sig h)) hstack hW (by rw [hb]; exact hdg)
    (fun vm₁ hW₁ => ⟨hf.1, hf.2, hPc (T.setVm vm₁) hT hW₁⟩)
  dsimp only [Pt.U, Pt.locs, Pt.cells, Pt.slots] at X' e1 e2 h1 h2 h3 st
  subst h1; subst h2; subst h3
  exact ⟨v, (T.setVm vm₁).calling g' mk (Value.ref b :: As).toArray, t, U', L, hT, X', hL, e1, e2, hq, st⟩
section
variable {y : MethodName} {bytes cc : ByteArray} {maxL nL mc ms n index : Nat} {ret : Option FieldType} {ws : List Cond} {rm : Room} {Pc : Array Value → State → Prop} {Qc : Array Value → State → Outcome → State → Prop} {XC : String → State → State → Prop} {free : Addr → Prop} {Ts : List Cond} {own C : String} {b : Addr} {As rest : List Value} {g : JFrame}
theorem vx_runVX {hh : List (Nat × Nat × Nat × Nat)} (S : CallFix p m c cc nL s args Ts own) (hM : vx_Met l y ws rm Pc Qc XC mc ms free) (cw : vx_CVW R s args own C index y bytes maxL ret hh ws rm mc ms n) (hp : PreV s H C b Pc As)
    (hg : g.method = m) (hn : As.length = n) (hsize : g.locals.size = nL) (hstack : g.stack = As.reverse ++ .ref b :: rest) (hW : 2 * g.monitorRoom + (rest.map fun v => v.category).sum ≤ 8) (hdg : decode cc g.pc = .ok (.invokevirtual index, 3)) (hf : cells + mc ≤ R.cells ∧ slots + ms ≤ R.slots) :
    vx_Run p l e R s m args below meth c H locs cells slots mc ms g rest (Qc (Value.ref b :: As).toArray) XC free := by
  obtain ⟨⟨hrc, hrs, hfr, hlo, hws, hcw⟩, hcode, hini, hy, hlen, hl, hin, hse⟩ := cw
  have hK : vx_Back l R p e below s args y 3 8 (PreOf R mc ms Pc) (PostOf Qc mc ms free) (vx_Post XC mc ms free) := vx_backW (hh := hh) (bytes := bytes) (maxL := maxL) (ret := ret) hM hp.1 hrc hrs hfr hlo hws hcw (fun a' U hW => word_at hW (Or.inl (by first | rfl | simp [Cond.onTables, Cond.keeps, Cond.steady])) hini)
  obtain ⟨hx, hb, hml, ho, -⟩ := S
  obtain ⟨-, ⟨cellB, hcB, hoB, hclB⟩, hPc⟩ := hp
  intro T hT X
  rcases vx_callVX X hx (C := C) (hh := hh) (bytes := bytes) (maxL := maxL) (ret := ret) ho hl hin hse hcode hy hK (by rw [hT]; exact hcB) hoB hclB hg (hsize.trans hml.symm) (argsL := As) (rest := rest) (fun sig h => hn.trans (hlen sig h)) hstack hW (by rw [hb]; exact hdg)
    (fun vm₁ hW₁ => ⟨hf.1, hf.2, hPc (T.setVm vm₁) hT hW₁⟩) with ⟨v, vm₁, ⟨U', l2, c2, s2⟩, hW₁, X', ⟨g', mk, t, L, e1, e2, hq, h1, hL, h2, h3⟩, st⟩ | ⟨q, vm₁, ⟨U', l2, c2, s2⟩, hW₁, X', ⟨g', mk, t, L, E, ce, e1, e2, hq, hce, hcv, hcl, h1, hL, h2, h3⟩, st⟩
  · dsimp only [Pt.U, Pt.locs, Pt.cells, Pt.slots] at X' e1 e2 h1 h2 h3 st
    subst h1; subst h2; subst h3
    exact Or.inl ⟨v, (T.setVm vm₁).calling g' mk (Value.ref b :: As).toArray, t, U', L, hT, X', hL, e1, e2, hq, st⟩
  · dsimp only [Pt.U, Pt.locs, Pt.cells, Pt.slots] at X' e1 e2 h1 h2 h3 st hcl
    subst h1; subst h2; subst h3
    exact Or.inr ⟨q, (T.setVm vm₁).calling g' mk (Value.ref b :: As).toArray, t, U', L, E, ce, hT, X', hL, e1, e2, hq, hce, hcv, vx_cls hW₁ hcl, st⟩
theorem vx_runSX {hh : List (Nat × Nat × Nat × Nat)} (S : CallFix p m c cc nL s args Ts own) (hM : vx_Met l y ws rm Pc Qc XC mc ms free) (cw : vx_CSW R s args own index y bytes maxL ret hh ws rm mc ms n) (hp : PreS s H Pc As)
    (hg : g.method = m) (hn : As.length = n) (hsize : g.locals.size = nL) (hstack : g.stack = As.reverse ++ rest) (hW : 2 * g.monitorRoom + (rest.map fun v => v.category).sum ≤ 8) (hdg : decode cc g.pc = .ok (.invokestatic index, 3)) (hf : cells + mc ≤ R.cells ∧ slots + ms ≤ R.slots) :
    vx_Run p l e R s m args below meth c H locs cells slots mc ms g rest (Qc As.toArray) XC free := by
  obtain ⟨⟨hrc, hrs, hfr, hlo, hws, hcw⟩, hcode, hini, hy, hlen, hl, hstt⟩ := cw
  have hK : vx_Back l R p e below s args y 3 8 (PreOf R mc ms Pc) (PostOf Qc mc ms free) (vx_Post XC mc ms free) := vx_backW (hh := hh) (bytes := bytes) (maxL := maxL) (ret := ret) hM hp.1 hrc hrs hfr hlo hws hcw (fun a' U hW => word_at hW (Or.inl (by first | rfl | simp [Cond.onTables, Cond.keeps, Cond.steady])) hini)
  obtain ⟨hx, hb, hml, ho, -⟩ := S
  intro T hT X
  rcases vx_callSX X hx (hh := hh) (bytes := bytes) (maxL := maxL) (ret := ret) ho hl hstt hini hcode hy hK hg (hsize.trans hml.symm) (argsL := As) (rest := rest) (fun sig h => hn.trans (hlen sig h)) hstack hW (by rw [hb]; exact hdg)
    (fun vm₁ hW₁ => ⟨hf.1, hf.2, hp.2 (T.setVm vm₁) hT hW₁⟩) with ⟨v, vm₁, ⟨U', l2, c2, s2⟩, hW₁, X', ⟨g', mk, t, L, e1, e2, hq, h1, hL, h2, h3⟩, st⟩ | ⟨q, vm₁, ⟨U', l2, c2, s2⟩, hW₁, X', ⟨g', mk, t, L, E, ce, e1, e2, hq, hce, hcv, hcl, h1, hL, h2, h3⟩, st⟩
  · dsimp only [Pt.U, Pt.locs, Pt.cells, Pt.slots] at X' e1 e2 h1 h2 h3 st
    subst h1; subst h2; subst h3
    exact Or.inl ⟨v, (T.setVm vm₁).calling g' mk As.toArray, t, U', L, hT, X', hL, e1, e2, hq, st⟩
  · dsimp only [Pt.U, Pt.locs, Pt.cells, Pt.slots] at X' e1 e2 h1 h2 h3 st hcl
    subst h1; subst h2; subst h3
    exact Or.inr ⟨q, (T.setVm vm₁).calling g' mk As.toArray, t, U', L, E, ce, hT, X', hL, e1, e2, hq, hce, hcv, vx_cls hW₁ hcl, st⟩
end
end VXH
theorem vx_ofWH {l : Launch} {y : MethodName} {ws ws' : List Cond} {rm : Room} {Pc : Array Value → State → Prop} {Qc : Array Value → State → Outcome → State → Prop} {XC : String → State → State → Prop} {mc ms : Nat} {free : Addr → Prop} {cc : ByteArray} {maxL : Nat} {ret : Option FieldType} {hh : List (Nat × Nat × Nat × Nat)}
    (hy : plainName y.cls = true) (hw : ws = Cond.codeWith y cc maxL ret hh :: ws')
    (body : ∀ p e s m args below meth c s₁, BodyLoose p l y (headSpec ws rm) cc maxL ret e s m args below meth c s₁ → c.maxLocals = maxL → Pc args s →
      W p l e (headSpec ws rm).room s m args below meth c s.heap [] 0 0 (vx_MQ below Qc XC args s mc ms free) (entryFrame m args maxL)) : vx_Met l y ws rm Pc Qc XC mc ms free := by
  refine MetFree.of_bodyS (code := cc) (maxLocals := maxL) (ret := ret) hy ?_ ?_
  · intro args s m h hn
    obtain ⟨m9, meth, c, hn9, h1, h2, h3, h4, -, h5, h6, -⟩ := Cond.codeWith_spec (atoms_spec (ws := ws) h _ (by rw [hw]; exact List.mem_cons_self))
    cases hn.symm.trans hn9
    exact ⟨meth, c, h1, h2, h3, h4, h5, h6⟩
  · intro p e s m args below meth c s₁ B hml hP _
    have hh0 : s₁.heap = s.heap := by rw [B.state]; rfl
    obtain ⟨t, a1, o, b1, b2, b3⟩ := body p e s m args below meth c s₁ B hml hP s₁ hh0 (Stand.of_body B)
    exact ⟨t, o, a1, b1, b2, b3⟩
/-! ===== END ===== -/
end
section
/-! THE MACHINE BY PLACES: cells that were made since the law began, by the order of their making (place k lies at old + k); old cells have places from 1000 on. SW: from here the method comes to its end with P. -/
abbrev AE : Type := (Nat × Nat × ((Nat → Int32) ⊕ (Nat → Int64) ⊕ (Nat → Option Nat))) ⊕ (Nat × List Value)
abbrev AH : Type := List AE
/-- classes, array classes by tag, heap size at the law's start, addresses of old cells, the formatter, cells may be made, the script -/
abbrev SG : Type := va_G × (Nat → ClassId) × Nat × (Nat → Nat) × Value × Bool × (Nat × Nat × (Nat → Int32))
abbrev sg_D (G : SG) : va_G := G.1
abbrev sg_t (G : SG) : Nat → ClassId := G.2.1
abbrev sg_o (G : SG) : Nat := G.2.2.1
abbrev sg_r (G : SG) : Nat → Nat := G.2.2.2.1
abbrev sg_f (G : SG) : Value := G.2.2.2.2.1
abbrev sg_al (G : SG) : Bool := G.2.2.2.2.2.1
abbrev sg_x (G : SG) : Nat × Nat × (Nat → Int32) := G.2.2.2.2.2.2
def sg_ad (G : SG) (k : Nat) : Nat := if k < 1000 then sg_o G + k else sg_r G k
def sg_tr (G : SG) (v : Value) : Value := match v with
  | .ref k => .ref (sg_ad G k)
  | .retAddr n => if n = 7 then sg_f G else .retAddr n
  | .int x => .int x
  | .long x => .long x
  | .float x => .float x
  | .double x => .double x
  | .null => .null
def sg_te (G : SG) (e : AE) : va_E := match e with
  | .inl (t, n, .inl f) => .inl (sg_t G t, n, .inl f)
  | .inl (t, n, .inr (.inl f)) => .inl (sg_t G t, n, .inr (.inl f))
  | .inl (t, n, .inr (.inr f)) => .inl (sg_t G t, n, .inr (.inr (.inr (.inr (fun i => (f i).map (sg_ad G))))))
  | .inr (ci, fs) => .inr (ci, fs.map (sg_tr G))
def sg_en (G : SG) (h : AH) : va_W := h.zipIdx.map (fun q => (sg_o G + q.2, sg_te G q.1))
def sg_A (G : SG) : Nat → Prop := fun q => sg_o G ≤ q
def sg_ty (G : SG) : List (ClassId × FieldType) := [(sg_t G 0, .int), (sg_t G 1, .boolean), (sg_t G 2, .long), (sg_t G 3, .object RX1)]
theorem sg_en_get (G : SG) (h : AH) (k : Nat) : (sg_en G h)[k]? = (h[k]?).map (fun e => (sg_o G + k, sg_te G e)) := by
  simp [sg_en, List.getElem?_map, List.getElem?_zipIdx, Function.comp_def]
theorem sg_en_at {G : SG} {h : AH} {k : Nat} {e : AE} (hk : h[k]? = some e) : (sg_en G h)[k]? = some (sg_o G + k, sg_te G e) := by
  rw [sg_en_get, hk]; rfl
theorem sg_en_set (G : SG) (h : AH) (k : Nat) (e : AE) : sg_en G (h.set k e) = (sg_en G h).set k (sg_o G + k, sg_te G e) := by
  apply List.ext_getElem?
  intro i
  rw [sg_en_get, List.getElem?_set, List.getElem?_set]
  have hl : (sg_en G h).length = h.length := by simp [sg_en]
  rw [hl]
  by_cases hi : k = i
  · subst hi
    by_cases hk : k < h.length
    · simp [hk]
    · simp [hk]
  · simp [hi, sg_en_get]
theorem sg_en_push (G : SG) (h : AH) (e : AE) : sg_en G (h ++ [e]) = sg_en G h ++ [(sg_o G + h.length, sg_te G e)] := by
  apply List.ext_getElem?
  intro i
  have hl : (sg_en G h).length = h.length := by simp [sg_en]
  rw [sg_en_get, List.getElem?_append, List.getElem?_append, hl]
  by_cases hi : i < h.length
  · simp [hi, sg_en_get]
  · rw [if_neg hi, if_neg hi]
    by_cases hz : i - h.length = 0
    · rw [hz]; simp; omega
    · have : ∀ {α : Type} (x : α), [x][i - h.length]? = none := fun x => by simp; omega
      rw [this, this]; rfl
theorem sg_Dn (G : SG) (h : AH) : va_D (sg_A G) (sg_en G h) := by
  refine ⟨fun i j p q hi hj hpq => ?_, fun k q hk => ?_⟩
  · rw [sg_en_get] at hi hj
    cases h1 : h[i]? with
    | none => rw [h1] at hi; cases hi
    | some e1 =>
      cases h2 : h[j]? with
      | none => rw [h2] at hj; cases hj
      | some e2 =>
        rw [h1] at hi; rw [h2] at hj
        cases hi; cases hj
        have : sg_o G + i = sg_o G + j := hpq
        omega
  · rw [sg_en_get] at hk
    cases h1 : h[k]? with
    | none => rw [h1] at hk; cases hk
    | some e1 => rw [h1] at hk; cases hk; exact Nat.le_add_right _ _
theorem sg_tr_int (G : SG) (x : Int32) : sg_tr G (.int x) = .int x := rfl
theorem sg_ad_lt {G : SG} {k : Nat} (h : k < 1000) : sg_ad G k = sg_o G + k := if_pos h
/-- what holds of the heap -/
def sg_I (G : SG) (h : AH) (H : Heap) : Prop := va_P (sg_D G) vwCl (sg_en G h) H ∧ h.length ≤ 1000 ∧ sg_o G + h.length ≤ H.size ∧ (sg_al G = true → H.size = sg_o G + h.length)
theorem sg_I.lt {G : SG} {h : AH} {H : Heap} (hI : sg_I G h H) {k : Nat} {e : AE} (hk : h[k]? = some e) : k < 1000 := by
  have h1 : k < h.length := (List.getElem?_eq_some_iff.mp hk).1
  exact Nat.lt_of_lt_of_le h1 hI.2.1
theorem sg_I.at {G : SG} {h : AH} {H : Heap} (hI : sg_I G h H) {k : Nat} {e : AE} (hk : h[k]? = some e) : (sg_en G h)[k]? = some (sg_ad G k, sg_te G e) := by
  rw [sg_ad_lt (hI.lt hk)]; exact sg_en_at hk
/-- the locals -/
def sg_L (G : SG) (L : List Value) (nL : Nat) (ls : Array Slot) : Prop := ls.size = nL ∧ lv_wf ls ∧ L.length = nL ∧ ∀ (i : Nat) (v : Value), L[i]? = some v → v ≠ .retAddr 0 → ls[i]? = some (.val (sg_tr G v))
def sg_lv (G : SG) (L : List Value) : List (Nat × Value) := L.zipIdx.filterMap (fun q => if q.1 = .retAddr 0 then none else some (q.2, sg_tr G q.1))
theorem sg_lv_mem {G : SG} {L : List Value} {q : Nat × Value} : q ∈ sg_lv G L ↔ ∃ v, L[q.1]? = some v ∧ v ≠ .retAddr 0 ∧ q.2 = sg_tr G v := by
  unfold sg_lv
  rw [List.mem_filterMap]
  constructor
  · rintro ⟨⟨v, i⟩, hm, hq⟩
    rw [List.mem_zipIdx_iff_getElem?] at hm
    by_cases hv : v = .retAddr 0
    · simp [hv] at hq
    · simp [hv] at hq
      subst hq
      exact ⟨v, hm, hv, rfl⟩
  · rintro ⟨v, h1, h2, h3⟩
    refine ⟨(v, q.1), List.mem_zipIdx_iff_getElem?.mpr h1, ?_⟩
    simp [h2, ← h3]
theorem sg_L.has {G : SG} {L : List Value} {nL : Nat} {ls : Array Slot} (h : sg_L G L nL ls) : lv_has ls nL (sg_lv G L) := by
  refine ⟨h.1, h.2.1, fun q hq => ?_⟩
  obtain ⟨v, h1, h2, h3⟩ := sg_lv_mem.mp hq
  rw [h3]
  exact h.2.2.2 _ _ h1 h2
theorem sg_L.get {G : SG} {L : List Value} {nL : Nat} {ls : Array Slot} (h : sg_L G L nL ls) {i : Nat} {v : Value} (hi : L[i]? = some v) (hv : v ≠ .retAddr 0) : ls[i]? = some (.val (sg_tr G v)) := h.2.2.2 _ _ hi hv
/-- a store at i doesn't cut a long in two -/
def sg_ok (L : List Value) (i : Nat) : Prop := ∀ w, L[i - 1]? = some w → i = 0 ∨ w.category = 1
theorem sg_catT {G : SG} (hf : (sg_f G).category = 1) (v : Value) : (sg_tr G v).category = v.category := by
  cases v with
  | retAddr n =>
    show (if n = 7 then sg_f G else Value.retAddr n).category = _
    by_cases hn : n = 7
    · rw [if_pos hn, hf]; rfl
    · rw [if_neg hn]
  | _ => rfl
theorem sg_L.set1 {G : SG} {L : List Value} {nL i : Nat} {ls : Array Slot} {v : Value} (hf : (sg_f G).category = 1) (h : sg_L G L nL ls) (hok : sg_ok L i) (hv : v ≠ .retAddr 0) {ls' : Array Slot}
    (h' : lv_has ls' nL ((i, sg_tr G v) :: (sg_lv G L).filter (fun q => !(q.1 == i) && !(q.1 + 1 == i && q.2.category == 2)))) : sg_L G (L.set i v) nL ls' := by
  refine ⟨h'.1, h'.2.1, by rw [List.length_set]; exact h.2.2.1, fun j w hj hw => ?_⟩
  by_cases hij : i = j
  · subst hij
    have hlt := (List.getElem?_eq_some_iff.mp hj).1
    rw [List.length_set] at hlt
    rw [List.getElem?_set_self hlt] at hj
    cases hj
    exact h'.2.2 (i, sg_tr G v) List.mem_cons_self
  · rw [List.getElem?_set_ne hij] at hj
    refine h'.2.2 (j, sg_tr G w) (List.mem_cons_of_mem _ (List.mem_filter.mpr ⟨sg_lv_mem.mpr ⟨w, hj, hw, rfl⟩, ?_⟩))
    have h1 : (j == i) = false := by simp; omega
    by_cases h2 : j + 1 = i
    · have h3 : w.category = 1 := by
        rcases hok w (by rw [show i - 1 = j by omega]; exact hj) with z | z
        · omega
        · exact z
      simp [h1, sg_catT hf, h3]
    · have h4 : (j + 1 == i) = false := by simp; omega
      simp [h1, h4]
theorem sg_L.set2 {G : SG} {L : List Value} {nL i : Nat} {ls : Array Slot} {v : Value} (hf : (sg_f G).category = 1) (h : sg_L G L nL ls) (hok : sg_ok L i) (hv : v ≠ .retAddr 0) {ls' : Array Slot}
    (h' : lv_has ls' nL ((i, sg_tr G v) :: (sg_lv G L).filter (fun q => !(q.1 == i) && (!(q.1 == i + 1) && !(q.1 + 1 == i && q.2.category == 2))))) : sg_L G ((L.set i v).set (i + 1) (.retAddr 0)) nL ls' := by
  refine ⟨h'.1, h'.2.1, by rw [List.length_set, List.length_set]; exact h.2.2.1, fun j w hj hw => ?_⟩
  by_cases hj1 : i + 1 = j
  · subst hj1
    have hlt := (List.getElem?_eq_some_iff.mp hj).1
    rw [List.length_set] at hlt
    rw [List.getElem?_set_self hlt] at hj
    cases hj
    exact absurd rfl hw
  · rw [List.getElem?_set_ne hj1] at hj
    by_cases hij : i = j
    · subst hij
      have hlt := (List.getElem?_eq_some_iff.mp hj).1
      rw [List.length_set] at hlt
      rw [List.getElem?_set_self hlt] at hj
      cases hj
      exact h'.2.2 (i, sg_tr G v) List.mem_cons_self
    · rw [List.getElem?_set_ne hij] at hj
      refine h'.2.2 (j, sg_tr G w) (List.mem_cons_of_mem _ (List.mem_filter.mpr ⟨sg_lv_mem.mpr ⟨w, hj, hw, rfl⟩, ?_⟩))
      have h1 : (j == i) = false := by simp; omega
      have h5 : (j == i + 1) = false := by simp; omega
      by_cases h2 : j + 1 = i
      · have h3 : w.category = 1 := by
          rcases hok w (by rw [show i - 1 = j by omega]; exact hj) with z | z
          · omega
          · exact z
        simp [h1, h5, sg_catT hf, h3]
      · have h4 : (j + 1 == i) = false := by simp; omega
        simp [h1, h5, h4]
end
section
-- old cells, by places: constants 1000.., texts 1010.., their bytes 1040.., tables 1080..
def ro_st : List (String × String × String × Value) := [("FlowGates$Verb", "SIZE", "LFlowGates$Verb;", .ref 1000), ("FlowGates$Verb", "BACK", "LFlowGates$Verb;", .ref 1001), ("FlowGates$Teller", "VERBS", "[LFlowGates$Verb;", .ref 1080), ("FlowGates", "SIZES", "[I", .ref 1081), ("FlowGates$1", "$SwitchMap$FlowGates$Verb", "[I", .ref 1082), ("java/lang/String", "COMPACT_STRINGS", "Z", .int 1), ("jdk/internal/util/Preconditions", "SIOOBE_FORMATTER", "Ljava/util/function/BiFunction;", .retAddr 7)]
def ro_ar : List (Nat × FieldType × Nat × List Value) := [(1080, .object "FlowGates$Verb", 8, [.ref 1000, .ref 1001, .ref 1002, .ref 1003, .ref 1004, .ref 1005, .ref 1006, .ref 1007]), (1081, .int, 24, [.int 3, .int 5, .int 7, .int 11, .int 13, .int 17, .int 19, .int 23, .int 29, .int 31, .int 37, .int 41, .int 43, .int 47, .int 53, .int 59, .int 61, .int 67, .int 71, .int 73, .int 79, .int 83, .int 89, .int 97]), (1082, .int, 8, [.int 1, .int 2, .int 3, .int 4, .int 5, .int 6, .int 7, .int 0]), (1040, .byte, 2, [.int 117, .int 112]), (1041, .byte, 4, [.int 100, .int 111, .int 119, .int 110]), (1042, .byte, 5, [.int 100, .int 114, .int 97, .int 105, .int 110]), (1043, .byte, 3, [.int 97, .int 108, .int 108]), (1044, .byte, 15, [.int 110, .int 111, .int 32, .int 115, .int 117, .int 99, .int 104, .int 32, .int 98, .int 97, .int 99, .int 107, .int 101, .int 110, .int 100]), (1045, .byte, 25, [.int 110, .int 111, .int 116, .int 104, .int 105, .int 110, .int 103, .int 32, .int 115, .int 117, .int 99, .int 104, .int 32, .int 111, .int 102, .int 32, .int 97, .int 32, .int 98, .int 97, .int 99, .int 107, .int 101, .int 110, .int 100]), (1046, .byte, 4, [.int 115, .int 105, .int 122, .int 101]), (1047, .byte, 1, [.int 83]), (1048, .byte, 4, [.int 98, .int 97, .int 99, .int 107]), (1049, .byte, 2, [.int 75, .int 87]), (1050, .byte, 5, [.int 119, .int 101, .int 105, .int 103, .int 104]), (1051, .byte, 2, [.int 66, .int 87]), (1052, .byte, 3, [.int 115, .int 101, .int 101]), (1053, .byte, 3, [.int 71, .int 66, .int 72]), (1054, .byte, 4, [.int 116, .int 105, .int 99, .int 107]), (1055, .byte, 1, [.int 84]), (1056, .byte, 4, [.int 114, .int 111, .int 111, .int 109]), (1057, .byte, 1, [.int 82]), (1058, .byte, 3, [.int 97, .int 103, .int 101]), (1059, .byte, 1, [.int 65]), (1060, .byte, 4, [.int 112, .int 97, .int 99, .int 107]), (1061, .byte, 2, [.int 71, .int 70])]
def ro_fd : List (Nat × String × String × String × Value) := [(1000, "java/lang/Enum", "ordinal", "I", .int 0), (1000, "FlowGates$Verb", "word", "Ljava/lang/String;", .ref 1016), (1000, "FlowGates$Verb", "sorts", "Ljava/lang/String;", .ref 1017), (1001, "java/lang/Enum", "ordinal", "I", .int 1), (1001, "FlowGates$Verb", "word", "Ljava/lang/String;", .ref 1018), (1001, "FlowGates$Verb", "sorts", "Ljava/lang/String;", .ref 1019), (1002, "java/lang/Enum", "ordinal", "I", .int 2), (1002, "FlowGates$Verb", "word", "Ljava/lang/String;", .ref 1020), (1002, "FlowGates$Verb", "sorts", "Ljava/lang/String;", .ref 1021), (1003, "java/lang/Enum", "ordinal", "I", .int 3), (1003, "FlowGates$Verb", "word", "Ljava/lang/String;", .ref 1022), (1003, "FlowGates$Verb", "sorts", "Ljava/lang/String;", .ref 1023), (1004, "java/lang/Enum", "ordinal", "I", .int 4), (1004, "FlowGates$Verb", "word", "Ljava/lang/String;", .ref 1024), (1004, "FlowGates$Verb", "sorts", "Ljava/lang/String;", .ref 1025), (1005, "java/lang/Enum", "ordinal", "I", .int 5), (1005, "FlowGates$Verb", "word", "Ljava/lang/String;", .ref 1026), (1005, "FlowGates$Verb", "sorts", "Ljava/lang/String;", .ref 1027), (1006, "java/lang/Enum", "ordinal", "I", .int 6), (1006, "FlowGates$Verb", "word", "Ljava/lang/String;", .ref 1028), (1006, "FlowGates$Verb", "sorts", "Ljava/lang/String;", .ref 1029), (1007, "java/lang/Enum", "ordinal", "I", .int 7), (1007, "FlowGates$Verb", "word", "Ljava/lang/String;", .ref 1030), (1007, "FlowGates$Verb", "sorts", "Ljava/lang/String;", .ref 1031), (1010, "java/lang/String", "coder", "B", .int 0), (1010, "java/lang/String", "value", "[B", .ref 1040), (1011, "java/lang/String", "coder", "B", .int 0), (1011, "java/lang/String", "value", "[B", .ref 1041), (1012, "java/lang/String", "coder", "B", .int 0), (1012, "java/lang/String", "value", "[B", .ref 1042), (1013, "java/lang/String", "coder", "B", .int 0), (1013, "java/lang/String", "value", "[B", .ref 1043), (1014, "java/lang/String", "coder", "B", .int 0), (1014, "java/lang/String", "value", "[B", .ref 1044), (1015, "java/lang/String", "coder", "B", .int 0), (1015, "java/lang/String", "value", "[B", .ref 1045), (1016, "java/lang/String", "coder", "B", .int 0), (1016, "java/lang/String", "value", "[B", .ref 1046), (1017, "java/lang/String", "coder", "B", .int 0), (1017, "java/lang/String", "value", "[B", .ref 1047), (1018, "java/lang/String", "coder", "B", .int 0), (1018, "java/lang/String", "value", "[B", .ref 1048), (1019, "java/lang/String", "coder", "B", .int 0), (1019, "java/lang/String", "value", "[B", .ref 1049), (1020, "java/lang/String", "coder", "B", .int 0), (1020, "java/lang/String", "value", "[B", .ref 1050), (1021, "java/lang/String", "coder", "B", .int 0), (1021, "java/lang/String", "value", "[B", .ref 1051), (1022, "java/lang/String", "coder", "B", .int 0), (1022, "java/lang/String", "value", "[B", .ref 1052), (1023, "java/lang/String", "coder", "B", .int 0), (1023, "java/lang/String", "value", "[B", .ref 1053), (1024, "java/lang/String", "coder", "B", .int 0), (1024, "java/lang/String", "value", "[B", .ref 1054), (1025, "java/lang/String", "coder", "B", .int 0), (1025, "java/lang/String", "value", "[B", .ref 1055), (1026, "java/lang/String", "coder", "B", .int 0), (1026, "java/lang/String", "value", "[B", .ref 1056), (1027, "java/lang/String", "coder", "B", .int 0), (1027, "java/lang/String", "value", "[B", .ref 1057), (1028, "java/lang/String", "coder", "B", .int 0), (1028, "java/lang/String", "value", "[B", .ref 1058), (1029, "java/lang/String", "coder", "B", .int 0), (1029, "java/lang/String", "value", "[B", .ref 1059), (1030, "java/lang/String", "coder", "B", .int 0), (1030, "java/lang/String", "value", "[B", .ref 1060), (1031, "java/lang/String", "coder", "B", .int 0), (1031, "java/lang/String", "value", "[B", .ref 1061)]
def ro_cl : List (Nat × String) := [(1000, "FlowGates$Verb"), (1001, "FlowGates$Verb"), (1002, "FlowGates$Verb"), (1003, "FlowGates$Verb"), (1004, "FlowGates$Verb"), (1005, "FlowGates$Verb"), (1006, "FlowGates$Verb"), (1007, "FlowGates$Verb"), (1010, "java/lang/String"), (1011, "java/lang/String"), (1012, "java/lang/String"), (1013, "java/lang/String"), (1014, "java/lang/String"), (1015, "java/lang/String"), (1016, "java/lang/String"), (1017, "java/lang/String"), (1018, "java/lang/String"), (1019, "java/lang/String"), (1020, "java/lang/String"), (1021, "java/lang/String"), (1022, "java/lang/String"), (1023, "java/lang/String"), (1024, "java/lang/String"), (1025, "java/lang/String"), (1026, "java/lang/String"), (1027, "java/lang/String"), (1028, "java/lang/String"), (1029, "java/lang/String"), (1030, "java/lang/String"), (1031, "java/lang/String")]
def ro_sr : List (String × Nat × String × Nat) := [("FlowGates$Teller", 101, "up", 1010), ("FlowGates$Teller", 103, "down", 1011), ("FlowGates$Teller", 105, "drain", 1012), ("FlowGates$Teller", 92, "all", 1013), ("FlowGates", 170, "no such backend", 1014), ("FlowGates", 187, "nothing such of a backend", 1015), ("FlowGates$Verb", 55, "size", 1016), ("FlowGates$Verb", 57, "S", 1017), ("FlowGates$Verb", 63, "back", 1018), ("FlowGates$Verb", 65, "KW", 1019), ("FlowGates$Verb", 68, "weigh", 1020), ("FlowGates$Verb", 70, "BW", 1021), ("FlowGates$Verb", 73, "see", 1022), ("FlowGates$Verb", 75, "GBH", 1023), ("FlowGates$Verb", 78, "tick", 1024), ("FlowGates$Verb", 80, "T", 1025), ("FlowGates$Verb", 83, "room", 1026), ("FlowGates$Verb", 85, "R", 1027), ("FlowGates$Verb", 88, "age", 1028), ("FlowGates$Verb", 90, "A", 1029), ("FlowGates$Verb", 93, "pack", 1030), ("FlowGates$Verb", 95, "GF", 1031)]
def ro_nm : List (String × Nat × MethodName) := [("FlowGates", 9, (⟨"FlowGates$Tape", "<init>", "()V"⟩ : MethodName)), ("FlowGates", 18, (⟨"FlowGates$Tables", "<init>", "()V"⟩ : MethodName)), ("FlowGates$World", 20, (⟨"FlowGates$Gate", "<init>", "()V"⟩ : MethodName)), ("FlowGates$Gate", 20, (⟨"FlowGates$Memory", "<init>", "()V"⟩ : MethodName)), ("FlowGates$Teller", 114, (⟨"FlowGates", "isSize", "(I)Z"⟩ : MethodName)), ("FlowGates$Teller", 121, (⟨"FlowGates", "isWithin", "(III)Z"⟩ : MethodName)), ("FlowGates$Teller", 128, (⟨"FlowGates", "isGate", "(I)Z"⟩ : MethodName)), ("FlowGates$Teller", 131, (⟨"FlowGates", "isFlow", "(I)Z"⟩ : MethodName)), ("FlowGates$Tables", 37, (⟨"FlowGates", "isAmong", "(II)Z"⟩ : MethodName)), ("FlowGates$Tables", 51, (⟨"FlowGates", "offsetOf", "(II)I"⟩ : MethodName)), ("FlowGates$Tables", 55, (⟨"FlowGates", "skipOf", "(II)I"⟩ : MethodName)), ("FlowGates$Tables", 63, (⟨"FlowGates", "modulo", "(II)I"⟩ : MethodName)), ("FlowGates$World", 99, (⟨"FlowGates", "slotOfFlow", "(II)I"⟩ : MethodName))]
def ro_nf : List (String × Nat × String × String × String) := [("FlowGates$Teller", 82, "FlowGates$Verb", "word", "Ljava/lang/String;"), ("FlowGates$Teller", 60, "FlowGates$Verb", "sorts", "Ljava/lang/String;")]
/-- the words that every method has -/
def wtab : List Cond := lw_tbl.filter goodWord
theorem wtab_in {w : Cond} (i : Nat) (h : lw_tbl[i]? = some w) (hg : goodWord w = true) : w ∈ wtab := List.mem_filter.mpr ⟨List.mem_of_getElem? h, hg⟩
theorem wtab_good {w : Cond} (h : w ∈ wtab) : goodWord w = true := (List.mem_filter.mp h).2
/-- the old cells, and the tables -/
def sg_E (G : SG) (U : State) : Prop := (va_K (sg_D G) vwCl (sg_ty G) U ∧ va_AO RX1 U) ∧ sg_o G ≤ U.heap.size ∧ (sg_f G).category = 1 ∧
  (∀ q ∈ ro_st, va_Z q.1 q.2.1 q.2.2.1 (sg_tr G q.2.2.2) (sg_A G) U U.heap) ∧
  (∀ q ∈ ro_ar, va_T q.2.1 (sg_ad G q.1) q.2.2.1 (fun j => sg_tr G (q.2.2.2.getD j .null)) (sg_A G) U U.heap) ∧
  (∀ q ∈ ro_fd, va_OF q.2.1 q.2.2.1 q.2.2.2.1 (sg_tr G q.2.2.2.2) (sg_ad G q.1) (sg_A G) U U.heap) ∧
  (∀ q ∈ ro_cl, va_O q.2 (sg_ad G q.1) (sg_A G) U U.heap) ∧
  (∀ q ∈ ro_sr, vk_R q.1 q.2.1 q.2.2.1 (sg_ad G q.2.2.2) U) ∧
  (∀ q ∈ ro_nm, va_Nw (.methodLinkNest q.1 q.2.1 q.2.2 "FlowGates") U) ∧
  (∀ q ∈ ro_nf, va_Nw (.fieldLinkNest q.1 q.2.1 q.2.2.1 q.2.2.2.1 q.2.2.2.2 "FlowGates") U) ∧
  (∀ i j : Nat, i < 8 → j < 8 → sg_r G (1000 + i) = sg_r G (1000 + j) → i = j) ∧
  (vx_Zq Bundle.tN "UNASSIGNED_STACK" Bundle.steD (sg_A G) U U.heap ∧ vx_Zq Bundle.tN "SUPPRESSED_SENTINEL" Bundle.listD (sg_A G) U U.heap) ∧
  va_X (sg_x G).1 (sg_x G).2.1 (sg_x G).2.2 U U.heap ∧ (sg_x G).1 < sg_o G
theorem sg_E.K {G : SG} {U : State} (h : sg_E G U) : va_K (sg_D G) vwCl (sg_ty G) U := h.1.1
theorem sg_E.ao {G : SG} {U : State} (h : sg_E G U) : va_AO RX1 U := h.1.2
theorem sg_E.oz {G : SG} {U : State} (h : sg_E G U) : sg_o G ≤ U.heap.size := h.2.1
theorem sg_E.fc {G : SG} {U : State} (h : sg_E G U) : (sg_f G).category = 1 := h.2.2.1
theorem sg_E.st {G : SG} {U : State} (h : sg_E G U) : ∀ q ∈ ro_st, va_Z q.1 q.2.1 q.2.2.1 (sg_tr G q.2.2.2) (sg_A G) U U.heap := h.2.2.2.1
theorem sg_E.ar {G : SG} {U : State} (h : sg_E G U) : ∀ q ∈ ro_ar, va_T q.2.1 (sg_ad G q.1) q.2.2.1 (fun j => sg_tr G (q.2.2.2.getD j .null)) (sg_A G) U U.heap := h.2.2.2.2.1
theorem sg_E.fd {G : SG} {U : State} (h : sg_E G U) : ∀ q ∈ ro_fd, va_OF q.2.1 q.2.2.1 q.2.2.2.1 (sg_tr G q.2.2.2.2) (sg_ad G q.1) (sg_A G) U U.heap := h.2.2.2.2.2.1
theorem sg_E.cl {G : SG} {U : State} (h : sg_E G U) : ∀ q ∈ ro_cl, va_O q.2 (sg_ad G q.1) (sg_A G) U U.heap := h.2.2.2.2.2.2.1
theorem sg_E.sr {G : SG} {U : State} (h : sg_E G U) : ∀ q ∈ ro_sr, vk_R q.1 q.2.1 q.2.2.1 (sg_ad G q.2.2.2) U := h.2.2.2.2.2.2.2.1
theorem sg_E.nm {G : SG} {U : State} (h : sg_E G U) : ∀ q ∈ ro_nm, va_Nw (.methodLinkNest q.1 q.2.1 q.2.2 "FlowGates") U := h.2.2.2.2.2.2.2.2.1
theorem sg_E.nf {G : SG} {U : State} (h : sg_E G U) : ∀ q ∈ ro_nf, va_Nw (.fieldLinkNest q.1 q.2.1 q.2.2.1 q.2.2.2.1 q.2.2.2.2 "FlowGates") U := h.2.2.2.2.2.2.2.2.2.1
theorem sg_E.inj {G : SG} {U : State} (h : sg_E G U) : ∀ i j : Nat, i < 8 → j < 8 → sg_r G (1000 + i) = sg_r G (1000 + j) → i = j := h.2.2.2.2.2.2.2.2.2.2.1
theorem sg_E.xs {G : SG} {U : State} (h : sg_E G U) : va_X (sg_x G).1 (sg_x G).2.1 (sg_x G).2.2 U U.heap ∧ (sg_x G).1 < sg_o G := h.2.2.2.2.2.2.2.2.2.2.2.2
theorem sg_E.move {G : SG} {s U : State} (h : sg_E G s) (hW : s.WarmedH U.vm) (hz : s.heap.size ≤ U.heap.size) (hk : ∀ q : Nat, q < s.heap.size → ¬ sg_A G q → U.heap[q]? = s.heap[q]?) : sg_E G U := by
  obtain ⟨⟨h1, h0⟩, h2, h3, h4, h5, h6, h7, h8, h9, h10, h11, ⟨h12, h13⟩, h14, h15⟩ := h
  refine ⟨⟨h1.moved hW.alike, h0.moved hW.alike⟩, Nat.le_trans h2 hz, h3, fun q hq => ((h4 q hq).kept hk).moved hW.alike, fun q hq => ((h5 q hq).kept hk).moved hW.alike, fun q hq => ((h6 q hq).kept hk).moved hW.alike, fun q hq => ((h7 q hq).kept hk).moved hW.alike, fun q hq => (h8 q hq).warm hW, fun q hq => va_Nw.warmM hW (h9 q hq), fun q hq => va_Nw.warmF hW (h10 q hq), h11, ⟨(h12.kept hk).moved hW.alike, (h13.kept hk).moved hW.alike⟩, ?_, h15⟩
  refine (va_X.kept h14 (hk _ ?_ ?_)).moved hW.alike
  · exact Nat.lt_of_lt_of_le h15 h2
  · exact Nat.not_le.mpr h15
theorem sg_E.same {G : SG} {U : State} (h : sg_E G U) (g : JFrame) (mk : MethodId) (a : Array Value) : sg_E G (U.calling g mk a) := h.move (U := U.calling g mk a) (State.WarmedH.refl U) (Nat.le_refl _) (fun _ _ _ => rfl)
end
section
/-- a method: name, code, locals, what it returns -/
abbrev MI : Type := MethodName × ByteArray × Nat × Option FieldType
def sg_C (G : SG) (y : MI) (d : Nat) (p : Program) (l : Launch) (R : Room) (s : State) (m : MethodId) (args : Array Value) (meth : Method) (c : Code) : Prop :=
  p.tables.exec = Jvm.exec ∧ c.code = y.2.1 ∧ c.maxLocals = y.2.2.1 ∧ meth.sig.returnType = y.2.2.2 ∧ meth.locks = false ∧ s.vm.findClass y.1.cls = some m.cls ∧ (∀ w ∈ wtab, w.before args s = true) ∧ sg_E G s ∧ d ≤ R.frames ∧ 37 * d ≤ R.locals ∧ l.stackTraces = false ∧ meth.name = y.1.name
section
variable {G : SG} {y : MI} {d : Nat} {p : Program} {l : Launch} {R : Room} {s : State} {m : MethodId} {args : Array Value} {meth : Method} {c : Code}
theorem sg_C.x (C : sg_C G y d p l R s m args meth c) : p.tables.exec = Jvm.exec := C.1
theorem sg_C.b (C : sg_C G y d p l R s m args meth c) : c.code = y.2.1 := C.2.1
theorem sg_C.ml (C : sg_C G y d p l R s m args meth c) : c.maxLocals = y.2.2.1 := C.2.2.1
theorem sg_C.rt (C : sg_C G y d p l R s m args meth c) : meth.sig.returnType = y.2.2.2 := C.2.2.2.1
theorem sg_C.lk (C : sg_C G y d p l R s m args meth c) : meth.locks = false := C.2.2.2.2.1
theorem sg_C.own (C : sg_C G y d p l R s m args meth c) : s.vm.findClass y.1.cls = some m.cls := C.2.2.2.2.2.1
theorem sg_C.ts (C : sg_C G y d p l R s m args meth c) : ∀ w ∈ wtab, w.before args s = true := C.2.2.2.2.2.2.1
theorem sg_C.E (C : sg_C G y d p l R s m args meth c) : sg_E G s := C.2.2.2.2.2.2.2.1
theorem sg_C.fr (C : sg_C G y d p l R s m args meth c) : d ≤ R.frames := C.2.2.2.2.2.2.2.2.1
theorem sg_C.lo (C : sg_C G y d p l R s m args meth c) : 37 * d ≤ R.locals := C.2.2.2.2.2.2.2.2.2.1
theorem sg_C.nt (C : sg_C G y d p l R s m args meth c) : l.stackTraces = false := C.2.2.2.2.2.2.2.2.2.2.1
theorem sg_C.nm (C : sg_C G y d p l R s m args meth c) : meth.name = y.1.name := C.2.2.2.2.2.2.2.2.2.2.2
end
/-- a method's end -/
def sg_Q (G : SG) (P : Option Value → AH → Prop) : Array Value → State → Outcome → State → Prop := fun _ st oc t => (∃ (r : Option Value) (h' : AH), oc = .returned (r.map (sg_tr G)) ∧ sg_I G h' t.heap ∧ P r h') ∧ va_F (sg_A G) st t
/-- from pc, with the locals L, the stack st, the cells h, method y ends with P (it may make bc cells more, of bs slots) -/
def SW (G : SG) (y : MI) (d bc bs pc : Nat) (L st : List Value) (h : AH) (P : Option Value → AH → Prop) : Prop :=
  ∀ (p : Program) (l : Launch) (e : Env) (R : Room) (s : State) (m : MethodId) (args : Array Value) (below : List Frame) (meth : Method) (c : Code) (H : Heap) (locs : List Loc) (ls : Array Slot) (cells slots mc ms : Nat),
    sg_C G y d p l R s m args meth c → cells + bc ≤ mc → slots + bs ≤ ms → mc ≤ R.cells → ms ≤ R.slots → sg_I G h H → va_S (sg_A G) s.heap H locs → sg_L G L y.2.2.1 ls →
    W p l e R s m args below meth c H locs cells slots (MQ below (sg_Q G P) args s mc ms (sg_A G)) (F0 m pc ls (st.map (sg_tr G)))
section ROWS
variable {G : SG} {y : MI} {d bc bs pc : Nat} {L st : List Value} {h : AH} {P : Option Value → AH → Prop}
theorem SW.mono {P' : Option Value → AH → Prop} (k : SW G y d bc bs pc L st h P) (hP : ∀ r h', P r h' → P' r h') : SW G y d bc bs pc L st h P' := by
  intro p l e R s m args below meth c H locs ls cells slots mc ms C h1 h2 h3 h4 hI hS hL T hT X
  obtain ⟨t, a1, o, b1, b2, ⟨⟨r, h', q1, q2, q3⟩, q4⟩, b4⟩ := k p l e R s m args below meth c H locs ls cells slots mc ms C h1 h2 h3 h4 hI hS hL T hT X
  exact ⟨t, a1, o, b1, b2, ⟨⟨r, h', q1, q2, hP _ _ q3⟩, q4⟩, b4⟩
-- pushes
theorem sw_iconst {n : Int} {v : Int32} (hd : decode y.2.1 pc = .ok (.iconst n, 1)) (hv : Int32.ofInt n = v) (k : SW G y d bc bs (pc + 1) L (.int v :: st) h P) : SW G y d bc bs pc L st h P := by
  intro p l e R s m args below meth c H locs ls cells slots mc ms C h1 h2 h3 h4 hI hS hL
  exact lv_iconst C.x C.b hd hv (k p l e R s m args below meth c H locs ls cells slots mc ms C h1 h2 h3 h4 hI hS hL)
theorem sw_bipush {n : Int} {v : Int32} (hd : decode y.2.1 pc = .ok (.bipush n, 2)) (hv : (Int8.ofInt n).toInt32 = v) (k : SW G y d bc bs (pc + 2) L (.int v :: st) h P) : SW G y d bc bs pc L st h P := by
  intro p l e R s m args below meth c H locs ls cells slots mc ms C h1 h2 h3 h4 hI hS hL
  exact lv_bipush C.x C.b hd hv (k p l e R s m args below meth c H locs ls cells slots mc ms C h1 h2 h3 h4 hI hS hL)
theorem sw_sipush {n : Int} {v : Int32} (hd : decode y.2.1 pc = .ok (.sipush n, 3)) (hv : (Int16.ofInt n).toInt32 = v) (k : SW G y d bc bs (pc + 3) L (.int v :: st) h P) : SW G y d bc bs pc L st h P := by
  intro p l e R s m args below meth c H locs ls cells slots mc ms C h1 h2 h3 h4 hI hS hL
  exact lv_sipush C.x C.b hd hv (k p l e R s m args below meth c H locs ls cells slots mc ms C h1 h2 h3 h4 hI hS hL)
theorem sw_lconst {n : Fin 2} {v : Int64} (hd : decode y.2.1 pc = .ok (.lconst n, 1)) (hv : Int64.ofNat (n : Nat) = v) (k : SW G y d bc bs (pc + 1) L (.long v :: st) h P) : SW G y d bc bs pc L st h P := by
  intro p l e R s m args below meth c H locs ls cells slots mc ms C h1 h2 h3 h4 hI hS hL
  exact lv_lconst C.x C.b hd hv (k p l e R s m args below meth c H locs ls cells slots mc ms C h1 h2 h3 h4 hI hS hL)
theorem sw_fconst0 (hd : decode y.2.1 pc = .ok (.fconst 0, 1)) (k : SW G y d bc bs (pc + 1) L (.float FP.fconst0 :: st) h P) : SW G y d bc bs pc L st h P := by
  intro p l e R s m args below meth c H locs ls cells slots mc ms C h1 h2 h3 h4 hI hS hL
  exact lv_fconst0 C.x C.b hd (k p l e R s m args below meth c H locs ls cells slots mc ms C h1 h2 h3 h4 hI hS hL)
theorem sw_fconst1 (hd : decode y.2.1 pc = .ok (.fconst 1, 1)) (k : SW G y d bc bs (pc + 1) L (.float FP.fconst1 :: st) h P) : SW G y d bc bs pc L st h P := by
  intro p l e R s m args below meth c H locs ls cells slots mc ms C h1 h2 h3 h4 hI hS hL
  exact lv_fconst1 C.x C.b hd (k p l e R s m args below meth c H locs ls cells slots mc ms C h1 h2 h3 h4 hI hS hL)
theorem sw_fconst2 (hd : decode y.2.1 pc = .ok (.fconst 2, 1)) (k : SW G y d bc bs (pc + 1) L (.float FP.fconst2 :: st) h P) : SW G y d bc bs pc L st h P := by
  intro p l e R s m args below meth c H locs ls cells slots mc ms C h1 h2 h3 h4 hI hS hL
  exact lv_fconst2 C.x C.b hd (k p l e R s m args below meth c H locs ls cells slots mc ms C h1 h2 h3 h4 hI hS hL)
theorem sw_ldc {ix : Nat} {v : Int32} (hd : decode y.2.1 pc = .ok (.ldc ix, 2)) (hw : Cond.constant y.1.cls ix v ∈ wtab) (k : SW G y d bc bs (pc + 2) L (.int v :: st) h P) : SW G y d bc bs pc L st h P := by
  intro p l e R s m args below meth c H locs ls cells slots mc ms C h1 h2 h3 h4 hI hS hL
  exact lv_ldc C.x C.b C.own (C.ts _ hw) hd (k p l e R s m args below meth c H locs ls cells slots mc ms C h1 h2 h3 h4 hI hS hL)
theorem sw_ldcw {ix : Nat} {v : Int32} (hd : decode y.2.1 pc = .ok (.ldc_w ix, 3)) (hw : Cond.constant y.1.cls ix v ∈ wtab) (k : SW G y d bc bs (pc + 3) L (.int v :: st) h P) : SW G y d bc bs pc L st h P := by
  intro p l e R s m args below meth c H locs ls cells slots mc ms C h1 h2 h3 h4 hI hS hL
  exact lv_ldcw C.x C.b C.own (C.ts _ hw) hd (k p l e R s m args below meth c H locs ls cells slots mc ms C h1 h2 h3 h4 hI hS hL)
theorem sw_ldcf {ix : Nat} {v : UInt32} (hd : decode y.2.1 pc = .ok (.ldc ix, 2)) (hw : Cond.constantFloat y.1.cls ix v ∈ wtab) (k : SW G y d bc bs (pc + 2) L (.float v :: st) h P) : SW G y d bc bs pc L st h P := by
  intro p l e R s m args below meth c H locs ls cells slots mc ms C h1 h2 h3 h4 hI hS hL
  exact lv_ldcf C.x C.b C.own (C.ts _ hw) hd (k p l e R s m args below meth c H locs ls cells slots mc ms C h1 h2 h3 h4 hI hS hL)
theorem sw_ldc2 {ix : Nat} {v : Int64} (hd : decode y.2.1 pc = .ok (.ldc2_w ix, 3)) (hw : Cond.constantLong y.1.cls ix v ∈ wtab) (k : SW G y d bc bs (pc + 3) L (.long v :: st) h P) : SW G y d bc bs pc L st h P := by
  intro p l e R s m args below meth c H locs ls cells slots mc ms C h1 h2 h3 h4 hI hS hL
  exact lv_ldc2 C.x C.b C.own (C.ts _ hw) hd (k p l e R s m args below meth c H locs ls cells slots mc ms C h1 h2 h3 h4 hI hS hL)
theorem sw_ldcS {ix a : Nat} {tx : String} (hd : decode y.2.1 pc = .ok (.ldc ix, 2)) (hq : (y.1.cls, ix, tx, a) ∈ ro_sr) (k : SW G y d bc bs (pc + 2) L (.ref a :: st) h P) : SW G y d bc bs pc L st h P := by
  intro p l e R s m args below meth c H locs ls cells slots mc ms C h1 h2 h3 h4 hI hS hL
  exact va_ldcS C.x C.b C.own (C.E.sr _ hq) hd (k p l e R s m args below meth c H locs ls cells slots mc ms C h1 h2 h3 h4 hI hS hL)
-- loads
theorem sw_iload_n {i : Fin 4} {x : Int32} (hd : decode y.2.1 pc = .ok (.iload_n i, 1)) (hl : L[(i : Nat)]? = some (.int x)) (k : SW G y d bc bs (pc + 1) L (.int x :: st) h P) : SW G y d bc bs pc L st h P := by
  intro p l e R s m args below meth c H locs ls cells slots mc ms C h1 h2 h3 h4 hI hS hL
  exact lv_iload_n C.x C.b hd rfl (hL.get hl (by simp)) (k p l e R s m args below meth c H locs ls cells slots mc ms C h1 h2 h3 h4 hI hS hL)
theorem sw_iload {i : Nat} {x : Int32} (hd : decode y.2.1 pc = .ok (.iload i, 2)) (hl : L[i]? = some (.int x)) (k : SW G y d bc bs (pc + 2) L (.int x :: st) h P) : SW G y d bc bs pc L st h P := by
  intro p l e R s m args below meth c H locs ls cells slots mc ms C h1 h2 h3 h4 hI hS hL
  exact lv_iload C.x C.b hd (hL.get hl (by simp)) (k p l e R s m args below meth c H locs ls cells slots mc ms C h1 h2 h3 h4 hI hS hL)
theorem sw_aload_n {i : Fin 4} {x : Nat} (hd : decode y.2.1 pc = .ok (.aload_n i, 1)) (hl : L[(i : Nat)]? = some (.ref x)) (k : SW G y d bc bs (pc + 1) L (.ref x :: st) h P) : SW G y d bc bs pc L st h P := by
  intro p l e R s m args below meth c H locs ls cells slots mc ms C h1 h2 h3 h4 hI hS hL
  exact lv_aload_n C.x C.b hd rfl (hL.get hl (by simp)) (k p l e R s m args below meth c H locs ls cells slots mc ms C h1 h2 h3 h4 hI hS hL)
theorem sw_aload {i : Nat} {x : Nat} (hd : decode y.2.1 pc = .ok (.aload i, 2)) (hl : L[i]? = some (.ref x)) (k : SW G y d bc bs (pc + 2) L (.ref x :: st) h P) : SW G y d bc bs pc L st h P := by
  intro p l e R s m args below meth c H locs ls cells slots mc ms C h1 h2 h3 h4 hI hS hL
  exact lv_aload C.x C.b hd (hL.get hl (by simp)) (k p l e R s m args below meth c H locs ls cells slots mc ms C h1 h2 h3 h4 hI hS hL)
theorem sw_lload_n {i : Fin 4} {x : Int64} (hd : decode y.2.1 pc = .ok (.lload_n i, 1)) (hl : L[(i : Nat)]? = some (.long x)) (k : SW G y d bc bs (pc + 1) L (.long x :: st) h P) : SW G y d bc bs pc L st h P := by
  intro p l e R s m args below meth c H locs ls cells slots mc ms C h1 h2 h3 h4 hI hS hL
  exact lv_lload_n C.x C.b hd rfl (hL.get hl (by simp)) (k p l e R s m args below meth c H locs ls cells slots mc ms C h1 h2 h3 h4 hI hS hL)
theorem sw_fload_n {i : Fin 4} {x : UInt32} (hd : decode y.2.1 pc = .ok (.fload_n i, 1)) (hl : L[(i : Nat)]? = some (.float x)) (k : SW G y d bc bs (pc + 1) L (.float x :: st) h P) : SW G y d bc bs pc L st h P := by
  intro p l e R s m args below meth c H locs ls cells slots mc ms C h1 h2 h3 h4 hI hS hL
  exact lv_fload_n C.x C.b hd rfl (hL.get hl (by simp)) (k p l e R s m args below meth c H locs ls cells slots mc ms C h1 h2 h3 h4 hI hS hL)
-- stores
def sg_okb (L : List Value) (i : Nat) : Bool := match i with
  | 0 => true
  | j + 1 => match L[j]? with
    | some (.long _) => false
    | some (.double _) => false
    | _ => true
theorem sg_okb_ok {L : List Value} {i : Nat} (hb : sg_okb L i = true) : sg_ok L i := by
  intro w hw
  cases i with
  | zero => exact Or.inl rfl
  | succ j =>
    rw [Nat.add_sub_cancel] at hw
    simp only [sg_okb, hw] at hb
    cases w <;> first | exact Or.inr rfl | (simp at hb; done) | cases hb
theorem sw_istore_n {i : Fin 4} {x : Int32} (hd : decode y.2.1 pc = .ok (.istore_n i, 1)) (hn : (i : Nat) < y.2.2.1) (hb : sg_okb L i = true) (k : SW G y d bc bs (pc + 1) (L.set i (.int x)) st h P) : SW G y d bc bs pc L (.int x :: st) h P := by
  intro p l e R s m args below meth c H locs ls cells slots mc ms C h1 h2 h3 h4 hI hS hL
  refine lv_istore_n C.x C.b hd rfl hL.has hn rfl (fun ls' hl' => ?_)
  exact k p l e R s m args below meth c H locs ls' cells slots mc ms C h1 h2 h3 h4 hI hS (hL.set1 C.E.fc (v := .int x) (sg_okb_ok hb) (by simp) hl')
theorem sw_istore {i : Nat} {x : Int32} (hd : decode y.2.1 pc = .ok (.istore i, 2)) (hn : i < y.2.2.1) (hb : sg_okb L i = true) (k : SW G y d bc bs (pc + 2) (L.set i (.int x)) st h P) : SW G y d bc bs pc L (.int x :: st) h P := by
  intro p l e R s m args below meth c H locs ls cells slots mc ms C h1 h2 h3 h4 hI hS hL
  refine lv_istore C.x C.b hd hL.has hn rfl (fun ls' hl' => ?_)
  exact k p l e R s m args below meth c H locs ls' cells slots mc ms C h1 h2 h3 h4 hI hS (hL.set1 C.E.fc (v := .int x) (sg_okb_ok hb) (by simp) hl')
theorem sw_astore_n {i : Fin 4} {x : Nat} (hd : decode y.2.1 pc = .ok (.astore_n i, 1)) (hn : (i : Nat) < y.2.2.1) (hb : sg_okb L i = true) (k : SW G y d bc bs (pc + 1) (L.set i (.ref x)) st h P) : SW G y d bc bs pc L (.ref x :: st) h P := by
  intro p l e R s m args below meth c H locs ls cells slots mc ms C h1 h2 h3 h4 hI hS hL
  refine lv_astore_n C.x C.b hd rfl hL.has hn rfl (fun ls' hl' => ?_)
  exact k p l e R s m args below meth c H locs ls' cells slots mc ms C h1 h2 h3 h4 hI hS (hL.set1 C.E.fc (v := .ref x) (sg_okb_ok hb) (by simp) hl')
theorem sw_astore {i : Nat} {x : Nat} (hd : decode y.2.1 pc = .ok (.astore i, 2)) (hn : i < y.2.2.1) (hb : sg_okb L i = true) (k : SW G y d bc bs (pc + 2) (L.set i (.ref x)) st h P) : SW G y d bc bs pc L (.ref x :: st) h P := by
  intro p l e R s m args below meth c H locs ls cells slots mc ms C h1 h2 h3 h4 hI hS hL
  refine lv_astore C.x C.b hd hL.has hn rfl (fun ls' hl' => ?_)
  exact k p l e R s m args below meth c H locs ls' cells slots mc ms C h1 h2 h3 h4 hI hS (hL.set1 C.E.fc (v := .ref x) (sg_okb_ok hb) (by simp) hl')
theorem sw_fstore_n {i : Fin 4} {x : UInt32} (hd : decode y.2.1 pc = .ok (.fstore_n i, 1)) (hn : (i : Nat) < y.2.2.1) (hb : sg_okb L i = true) (k : SW G y d bc bs (pc + 1) (L.set i (.float x)) st h P) : SW G y d bc bs pc L (.float x :: st) h P := by
  intro p l e R s m args below meth c H locs ls cells slots mc ms C h1 h2 h3 h4 hI hS hL
  refine lv_fstore_n C.x C.b hd rfl hL.has hn rfl (fun ls' hl' => ?_)
  exact k p l e R s m args below meth c H locs ls' cells slots mc ms C h1 h2 h3 h4 hI hS (hL.set1 C.E.fc (v := .float x) (sg_okb_ok hb) (by simp) hl')
theorem sw_lstore_n {i : Fin 4} {x : Int64} (hd : decode y.2.1 pc = .ok (.lstore_n i, 1)) (hn : (i : Nat) + 1 < y.2.2.1) (hb : sg_okb L i = true) (k : SW G y d bc bs (pc + 1) ((L.set i (.long x)).set ((i : Nat) + 1) (.retAddr 0)) st h P) : SW G y d bc bs pc L (.long x :: st) h P := by
  intro p l e R s m args below meth c H locs ls cells slots mc ms C h1 h2 h3 h4 hI hS hL
  refine lv_lstore_n C.x C.b hd rfl hL.has hn rfl (fun ls' hl' => ?_)
  exact k p l e R s m args below meth c H locs ls' cells slots mc ms C h1 h2 h3 h4 hI hS (hL.set2 C.E.fc (v := .long x) (sg_okb_ok hb) (by simp) hl')
theorem sw_iinc {i : Nat} {n : Int} {x v : Int32} (hd : decode y.2.1 pc = .ok (.iinc i n, 3)) (hl : L[i]? = some (.int x)) (hv : x + Int32.ofInt n = v) (hn : i < y.2.2.1) (hb : sg_okb L i = true) (k : SW G y d bc bs (pc + 3) (L.set i (.int v)) st h P) : SW G y d bc bs pc L st h P := by
  intro p l e R s m args below meth c H locs ls cells slots mc ms C h1 h2 h3 h4 hI hS hL
  obtain ⟨j, hj⟩ := List.getElem?_of_mem (sg_lv_mem.mpr ⟨.int x, hl, by simp, rfl⟩ : (i, Value.int x) ∈ sg_lv G L)
  refine lv_iinc C.x C.b hd hL.has (k := j) hj hv hn rfl (fun ls' hl' => ?_)
  exact k p l e R s m args below meth c H locs ls' cells slots mc ms C h1 h2 h3 h4 hI hS (hL.set1 C.E.fc (v := .int v) (sg_okb_ok hb) (by simp) hl')
end ROWS
end
section
section ROWS2
variable {G : SG} {y : MI} {d bc bs pc : Nat} {L st : List Value} {h : AH} {P : Option Value → AH → Prop}
theorem sw_iadd {x z : Int32} (hd : decode y.2.1 pc = .ok (.iadd, 1)) (k : SW G y d bc bs (pc + 1) L (.int (x + z) :: st) h P) : SW G y d bc bs pc L (.int z :: .int x :: st) h P := by
  intro p l e R s m args below meth c H locs ls cells slots mc ms C h1 h2 h3 h4 hI hS hL
  exact lv_iadd C.x C.b hd (k p l e R s m args below meth c H locs ls cells slots mc ms C h1 h2 h3 h4 hI hS hL)
theorem sw_isub {x z : Int32} (hd : decode y.2.1 pc = .ok (.isub, 1)) (k : SW G y d bc bs (pc + 1) L (.int (x - z) :: st) h P) : SW G y d bc bs pc L (.int z :: .int x :: st) h P := by
  intro p l e R s m args below meth c H locs ls cells slots mc ms C h1 h2 h3 h4 hI hS hL
  exact lv_isub C.x C.b hd (k p l e R s m args below meth c H locs ls cells slots mc ms C h1 h2 h3 h4 hI hS hL)
theorem sw_imul {x z : Int32} (hd : decode y.2.1 pc = .ok (.imul, 1)) (k : SW G y d bc bs (pc + 1) L (.int (x * z) :: st) h P) : SW G y d bc bs pc L (.int z :: .int x :: st) h P := by
  intro p l e R s m args below meth c H locs ls cells slots mc ms C h1 h2 h3 h4 hI hS hL
  exact lv_imul C.x C.b hd (k p l e R s m args below meth c H locs ls cells slots mc ms C h1 h2 h3 h4 hI hS hL)
theorem sw_iand {x z : Int32} (hd : decode y.2.1 pc = .ok (.iand, 1)) (k : SW G y d bc bs (pc + 1) L (.int (x &&& z) :: st) h P) : SW G y d bc bs pc L (.int z :: .int x :: st) h P := by
  intro p l e R s m args below meth c H locs ls cells slots mc ms C h1 h2 h3 h4 hI hS hL
  exact lv_iand C.x C.b hd (k p l e R s m args below meth c H locs ls cells slots mc ms C h1 h2 h3 h4 hI hS hL)
theorem sw_ior {x z : Int32} (hd : decode y.2.1 pc = .ok (.ior, 1)) (k : SW G y d bc bs (pc + 1) L (.int (x ||| z) :: st) h P) : SW G y d bc bs pc L (.int z :: .int x :: st) h P := by
  intro p l e R s m args below meth c H locs ls cells slots mc ms C h1 h2 h3 h4 hI hS hL
  exact lv_ior C.x C.b hd (k p l e R s m args below meth c H locs ls cells slots mc ms C h1 h2 h3 h4 hI hS hL)
theorem sw_ixor {x z : Int32} (hd : decode y.2.1 pc = .ok (.ixor, 1)) (k : SW G y d bc bs (pc + 1) L (.int (x ^^^ z) :: st) h P) : SW G y d bc bs pc L (.int z :: .int x :: st) h P := by
  intro p l e R s m args below meth c H locs ls cells slots mc ms C h1 h2 h3 h4 hI hS hL
  exact lv_ixor C.x C.b hd (k p l e R s m args below meth c H locs ls cells slots mc ms C h1 h2 h3 h4 hI hS hL)
theorem sw_irem {x z : Int32} (hd : decode y.2.1 pc = .ok (.irem, 1)) (hne : ¬ z = 0) (k : SW G y d bc bs (pc + 1) L (.int (x - x / z * z) :: st) h P) : SW G y d bc bs pc L (.int z :: .int x :: st) h P := by
  intro p l e R s m args below meth c H locs ls cells slots mc ms C h1 h2 h3 h4 hI hS hL
  exact lv_irem C.x C.b hd hne (k p l e R s m args below meth c H locs ls cells slots mc ms C h1 h2 h3 h4 hI hS hL)
theorem sw_ishl {x z : Int32} (hd : decode y.2.1 pc = .ok (.ishl, 1)) (k : SW G y d bc bs (pc + 1) L (.int (x <<< (z &&& 31)) :: st) h P) : SW G y d bc bs pc L (.int z :: .int x :: st) h P := by
  intro p l e R s m args below meth c H locs ls cells slots mc ms C h1 h2 h3 h4 hI hS hL
  exact lv_ishl C.x C.b hd (k p l e R s m args below meth c H locs ls cells slots mc ms C h1 h2 h3 h4 hI hS hL)
theorem sw_ishr {x z : Int32} (hd : decode y.2.1 pc = .ok (.ishr, 1)) (k : SW G y d bc bs (pc + 1) L (.int (x >>> (z &&& 31)) :: st) h P) : SW G y d bc bs pc L (.int z :: .int x :: st) h P := by
  intro p l e R s m args below meth c H locs ls cells slots mc ms C h1 h2 h3 h4 hI hS hL
  exact lv_ishr C.x C.b hd (k p l e R s m args below meth c H locs ls cells slots mc ms C h1 h2 h3 h4 hI hS hL)
theorem sw_iushr {x z : Int32} (hd : decode y.2.1 pc = .ok (.iushr, 1)) (k : SW G y d bc bs (pc + 1) L (.int (x.toUInt32 >>> (z.toUInt32 &&& Int32.toUInt32 31)).toInt32 :: st) h P) : SW G y d bc bs pc L (.int z :: .int x :: st) h P := by
  intro p l e R s m args below meth c H locs ls cells slots mc ms C h1 h2 h3 h4 hI hS hL
  exact lv_iushr C.x C.b hd rfl (k p l e R s m args below meth c H locs ls cells slots mc ms C h1 h2 h3 h4 hI hS hL)
theorem sw_ladd {x z : Int64} (hd : decode y.2.1 pc = .ok (.ladd, 1)) (k : SW G y d bc bs (pc + 1) L (.long (x + z) :: st) h P) : SW G y d bc bs pc L (.long z :: .long x :: st) h P := by
  intro p l e R s m args below meth c H locs ls cells slots mc ms C h1 h2 h3 h4 hI hS hL
  exact lv_ladd C.x C.b hd (k p l e R s m args below meth c H locs ls cells slots mc ms C h1 h2 h3 h4 hI hS hL)
theorem sw_lsub {x z : Int64} (hd : decode y.2.1 pc = .ok (.lsub, 1)) (k : SW G y d bc bs (pc + 1) L (.long (x - z) :: st) h P) : SW G y d bc bs pc L (.long z :: .long x :: st) h P := by
  intro p l e R s m args below meth c H locs ls cells slots mc ms C h1 h2 h3 h4 hI hS hL
  exact lv_lsub C.x C.b hd (k p l e R s m args below meth c H locs ls cells slots mc ms C h1 h2 h3 h4 hI hS hL)
theorem sw_lmul {x z : Int64} (hd : decode y.2.1 pc = .ok (.lmul, 1)) (k : SW G y d bc bs (pc + 1) L (.long (x * z) :: st) h P) : SW G y d bc bs pc L (.long z :: .long x :: st) h P := by
  intro p l e R s m args below meth c H locs ls cells slots mc ms C h1 h2 h3 h4 hI hS hL
  exact lv_lmul C.x C.b hd (k p l e R s m args below meth c H locs ls cells slots mc ms C h1 h2 h3 h4 hI hS hL)
theorem sw_fdiv {x z : UInt32} (hd : decode y.2.1 pc = .ok (.fdiv, 1)) (hne : vf_n32 (FP.fdiv x z)) (k : SW G y d bc bs (pc + 1) L (.float (FP.fdiv x z) :: st) h P) : SW G y d bc bs pc L (.float z :: .float x :: st) h P := by
  intro p l e R s m args below meth c H locs ls cells slots mc ms C h1 h2 h3 h4 hI hS hL
  exact lv_fdiv C.x C.b hd hne (k p l e R s m args below meth c H locs ls cells slots mc ms C h1 h2 h3 h4 hI hS hL)
theorem sw_fmul {x z : UInt32} (hd : decode y.2.1 pc = .ok (.fmul, 1)) (hne : vf_n32 (FP.fmul x z)) (k : SW G y d bc bs (pc + 1) L (.float (FP.fmul x z) :: st) h P) : SW G y d bc bs pc L (.float z :: .float x :: st) h P := by
  intro p l e R s m args below meth c H locs ls cells slots mc ms C h1 h2 h3 h4 hI hS hL
  exact lv_fmul C.x C.b hd hne (k p l e R s m args below meth c H locs ls cells slots mc ms C h1 h2 h3 h4 hI hS hL)
theorem sw_lcmp {x z : Int64} (hd : decode y.2.1 pc = .ok (.lcmp, 1)) (k : SW G y d bc bs (pc + 1) L (.int (lg_cmp x z) :: st) h P) : SW G y d bc bs pc L (.long z :: .long x :: st) h P := by
  intro p l e R s m args below meth c H locs ls cells slots mc ms C h1 h2 h3 h4 hI hS hL
  exact W.lcmp C.x C.b hd (k p l e R s m args below meth c H locs ls cells slots mc ms C h1 h2 h3 h4 hI hS hL)
theorem sw_fcmp {x z : UInt32} {op : CmpOp} (hd : decode y.2.1 pc = .ok (.fcmp op, 1)) (k : SW G y d bc bs (pc + 1) L (.int (Op.cmpValue (FP.fcmp x z) op) :: st) h P) : SW G y d bc bs pc L (.float z :: .float x :: st) h P := by
  intro p l e R s m args below meth c H locs ls cells slots mc ms C h1 h2 h3 h4 hI hS hL
  exact lv_fcmp C.x C.b hd (k p l e R s m args below meth c H locs ls cells slots mc ms C h1 h2 h3 h4 hI hS hL)
theorem sw_ineg {x : Int32} (hd : decode y.2.1 pc = .ok (.ineg, 1)) (k : SW G y d bc bs (pc + 1) L (.int (-x) :: st) h P) : SW G y d bc bs pc L (.int x :: st) h P := by
  intro p l e R s m args below meth c H locs ls cells slots mc ms C h1 h2 h3 h4 hI hS hL
  exact lv_ineg C.x C.b hd (k p l e R s m args below meth c H locs ls cells slots mc ms C h1 h2 h3 h4 hI hS hL)
theorem sw_i2l {x : Int32} (hd : decode y.2.1 pc = .ok (.i2l, 1)) (k : SW G y d bc bs (pc + 1) L (.long x.toInt64 :: st) h P) : SW G y d bc bs pc L (.int x :: st) h P := by
  intro p l e R s m args below meth c H locs ls cells slots mc ms C h1 h2 h3 h4 hI hS hL
  exact lv_i2l C.x C.b hd rfl (k p l e R s m args below meth c H locs ls cells slots mc ms C h1 h2 h3 h4 hI hS hL)
theorem sw_i2f {x : Int32} (hd : decode y.2.1 pc = .ok (.i2f, 1)) (k : SW G y d bc bs (pc + 1) L (.float (FP.i2f x) :: st) h P) : SW G y d bc bs pc L (.int x :: st) h P := by
  intro p l e R s m args below meth c H locs ls cells slots mc ms C h1 h2 h3 h4 hI hS hL
  exact lv_i2f C.x C.b hd (k p l e R s m args below meth c H locs ls cells slots mc ms C h1 h2 h3 h4 hI hS hL)
theorem sw_f2i {x : UInt32} (hd : decode y.2.1 pc = .ok (.f2i, 1)) (k : SW G y d bc bs (pc + 1) L (.int (FP.f2i x) :: st) h P) : SW G y d bc bs pc L (.float x :: st) h P := by
  intro p l e R s m args below meth c H locs ls cells slots mc ms C h1 h2 h3 h4 hI hS hL
  exact lv_f2i C.x C.b hd (k p l e R s m args below meth c H locs ls cells slots mc ms C h1 h2 h3 h4 hI hS hL)
theorem sw_i2c {x : Int32} (hd : decode y.2.1 pc = .ok (.i2c, 1)) (k : SW G y d bc bs (pc + 1) L (.int (x.toUInt32 % 65536).toInt32 :: st) h P) : SW G y d bc bs pc L (.int x :: st) h P := by
  intro p l e R s m args below meth c H locs ls cells slots mc ms C h1 h2 h3 h4 hI hS hL
  exact lv_i2c C.x C.b hd rfl (k p l e R s m args below meth c H locs ls cells slots mc ms C h1 h2 h3 h4 hI hS hL)
theorem sw_ifeq {x : Int32} {off : Int} {tgt : Nat} (hd : decode y.2.1 pc = .ok (.ifCond .eq off, 3)) (ht : (pc : Int) + off = (tgt : Int)) (kt : x = 0 → SW G y d bc bs tgt L st h P) (kf : ¬ x = 0 → SW G y d bc bs (pc + 3) L st h P) : SW G y d bc bs pc L (.int x :: st) h P := by
  intro p l e R s m args below meth c H locs ls cells slots mc ms C h1 h2 h3 h4 hI hS hL
  exact lv_if_eq C.x C.b hd ht (fun hc => kt hc p l e R s m args below meth c H locs ls cells slots mc ms C h1 h2 h3 h4 hI hS hL) (fun hc => kf hc p l e R s m args below meth c H locs ls cells slots mc ms C h1 h2 h3 h4 hI hS hL)
theorem sw_ifne {x : Int32} {off : Int} {tgt : Nat} (hd : decode y.2.1 pc = .ok (.ifCond .ne off, 3)) (ht : (pc : Int) + off = (tgt : Int)) (kt : ¬ x = 0 → SW G y d bc bs tgt L st h P) (kf : x = 0 → SW G y d bc bs (pc + 3) L st h P) : SW G y d bc bs pc L (.int x :: st) h P := by
  intro p l e R s m args below meth c H locs ls cells slots mc ms C h1 h2 h3 h4 hI hS hL
  exact lv_if_ne C.x C.b hd ht (fun hc => kt hc p l e R s m args below meth c H locs ls cells slots mc ms C h1 h2 h3 h4 hI hS hL) (fun hc => kf hc p l e R s m args below meth c H locs ls cells slots mc ms C h1 h2 h3 h4 hI hS hL)
theorem sw_iflt {x : Int32} {off : Int} {tgt : Nat} (hd : decode y.2.1 pc = .ok (.ifCond .lt off, 3)) (ht : (pc : Int) + off = (tgt : Int)) (kt : x < 0 → SW G y d bc bs tgt L st h P) (kf : ¬ x < 0 → SW G y d bc bs (pc + 3) L st h P) : SW G y d bc bs pc L (.int x :: st) h P := by
  intro p l e R s m args below meth c H locs ls cells slots mc ms C h1 h2 h3 h4 hI hS hL
  exact lv_if_lt C.x C.b hd ht (fun hc => kt hc p l e R s m args below meth c H locs ls cells slots mc ms C h1 h2 h3 h4 hI hS hL) (fun hc => kf hc p l e R s m args below meth c H locs ls cells slots mc ms C h1 h2 h3 h4 hI hS hL)
theorem sw_ifge {x : Int32} {off : Int} {tgt : Nat} (hd : decode y.2.1 pc = .ok (.ifCond .ge off, 3)) (ht : (pc : Int) + off = (tgt : Int)) (kt : 0 ≤ x → SW G y d bc bs tgt L st h P) (kf : ¬ 0 ≤ x → SW G y d bc bs (pc + 3) L st h P) : SW G y d bc bs pc L (.int x :: st) h P := by
  intro p l e R s m args below meth c H locs ls cells slots mc ms C h1 h2 h3 h4 hI hS hL
  exact lv_if_ge C.x C.b hd ht (fun hc => kt hc p l e R s m args below meth c H locs ls cells slots mc ms C h1 h2 h3 h4 hI hS hL) (fun hc => kf hc p l e R s m args below meth c H locs ls cells slots mc ms C h1 h2 h3 h4 hI hS hL)
theorem sw_ifgt {x : Int32} {off : Int} {tgt : Nat} (hd : decode y.2.1 pc = .ok (.ifCond .gt off, 3)) (ht : (pc : Int) + off = (tgt : Int)) (kt : 0 < x → SW G y d bc bs tgt L st h P) (kf : ¬ 0 < x → SW G y d bc bs (pc + 3) L st h P) : SW G y d bc bs pc L (.int x :: st) h P := by
  intro p l e R s m args below meth c H locs ls cells slots mc ms C h1 h2 h3 h4 hI hS hL
  exact lv_if_gt C.x C.b hd ht (fun hc => kt hc p l e R s m args below meth c H locs ls cells slots mc ms C h1 h2 h3 h4 hI hS hL) (fun hc => kf hc p l e R s m args below meth c H locs ls cells slots mc ms C h1 h2 h3 h4 hI hS hL)
theorem sw_ifle {x : Int32} {off : Int} {tgt : Nat} (hd : decode y.2.1 pc = .ok (.ifCond .le off, 3)) (ht : (pc : Int) + off = (tgt : Int)) (kt : x ≤ 0 → SW G y d bc bs tgt L st h P) (kf : ¬ x ≤ 0 → SW G y d bc bs (pc + 3) L st h P) : SW G y d bc bs pc L (.int x :: st) h P := by
  intro p l e R s m args below meth c H locs ls cells slots mc ms C h1 h2 h3 h4 hI hS hL
  exact lv_if_le C.x C.b hd ht (fun hc => kt hc p l e R s m args below meth c H locs ls cells slots mc ms C h1 h2 h3 h4 hI hS hL) (fun hc => kf hc p l e R s m args below meth c H locs ls cells slots mc ms C h1 h2 h3 h4 hI hS hL)
theorem sw_cmpeq {x z : Int32} {off : Int} {tgt : Nat} (hd : decode y.2.1 pc = .ok (.if_icmp .eq off, 3)) (ht : (pc : Int) + off = (tgt : Int)) (kt : x = z → SW G y d bc bs tgt L st h P) (kf : ¬ x = z → SW G y d bc bs (pc + 3) L st h P) : SW G y d bc bs pc L (.int z :: .int x :: st) h P := by
  intro p l e R s m args below meth c H locs ls cells slots mc ms C h1 h2 h3 h4 hI hS hL
  exact lv_icmp_eq C.x C.b hd ht (fun hc => kt hc p l e R s m args below meth c H locs ls cells slots mc ms C h1 h2 h3 h4 hI hS hL) (fun hc => kf hc p l e R s m args below meth c H locs ls cells slots mc ms C h1 h2 h3 h4 hI hS hL)
theorem sw_cmpne {x z : Int32} {off : Int} {tgt : Nat} (hd : decode y.2.1 pc = .ok (.if_icmp .ne off, 3)) (ht : (pc : Int) + off = (tgt : Int)) (kt : ¬ x = z → SW G y d bc bs tgt L st h P) (kf : x = z → SW G y d bc bs (pc + 3) L st h P) : SW G y d bc bs pc L (.int z :: .int x :: st) h P := by
  intro p l e R s m args below meth c H locs ls cells slots mc ms C h1 h2 h3 h4 hI hS hL
  exact lv_icmp_ne C.x C.b hd ht (fun hc => kt hc p l e R s m args below meth c H locs ls cells slots mc ms C h1 h2 h3 h4 hI hS hL) (fun hc => kf hc p l e R s m args below meth c H locs ls cells slots mc ms C h1 h2 h3 h4 hI hS hL)
theorem sw_cmplt {x z : Int32} {off : Int} {tgt : Nat} (hd : decode y.2.1 pc = .ok (.if_icmp .lt off, 3)) (ht : (pc : Int) + off = (tgt : Int)) (kt : x < z → SW G y d bc bs tgt L st h P) (kf : ¬ x < z → SW G y d bc bs (pc + 3) L st h P) : SW G y d bc bs pc L (.int z :: .int x :: st) h P := by
  intro p l e R s m args below meth c H locs ls cells slots mc ms C h1 h2 h3 h4 hI hS hL
  exact lv_icmp_lt C.x C.b hd ht (fun hc => kt hc p l e R s m args below meth c H locs ls cells slots mc ms C h1 h2 h3 h4 hI hS hL) (fun hc => kf hc p l e R s m args below meth c H locs ls cells slots mc ms C h1 h2 h3 h4 hI hS hL)
theorem sw_cmpge {x z : Int32} {off : Int} {tgt : Nat} (hd : decode y.2.1 pc = .ok (.if_icmp .ge off, 3)) (ht : (pc : Int) + off = (tgt : Int)) (kt : z ≤ x → SW G y d bc bs tgt L st h P) (kf : ¬ z ≤ x → SW G y d bc bs (pc + 3) L st h P) : SW G y d bc bs pc L (.int z :: .int x :: st) h P := by
  intro p l e R s m args below meth c H locs ls cells slots mc ms C h1 h2 h3 h4 hI hS hL
  exact lv_icmp_ge C.x C.b hd ht (fun hc => kt hc p l e R s m args below meth c H locs ls cells slots mc ms C h1 h2 h3 h4 hI hS hL) (fun hc => kf hc p l e R s m args below meth c H locs ls cells slots mc ms C h1 h2 h3 h4 hI hS hL)
theorem sw_cmpgt {x z : Int32} {off : Int} {tgt : Nat} (hd : decode y.2.1 pc = .ok (.if_icmp .gt off, 3)) (ht : (pc : Int) + off = (tgt : Int)) (kt : z < x → SW G y d bc bs tgt L st h P) (kf : ¬ z < x → SW G y d bc bs (pc + 3) L st h P) : SW G y d bc bs pc L (.int z :: .int x :: st) h P := by
  intro p l e R s m args below meth c H locs ls cells slots mc ms C h1 h2 h3 h4 hI hS hL
  exact lv_icmp_gt C.x C.b hd ht (fun hc => kt hc p l e R s m args below meth c H locs ls cells slots mc ms C h1 h2 h3 h4 hI hS hL) (fun hc => kf hc p l e R s m args below meth c H locs ls cells slots mc ms C h1 h2 h3 h4 hI hS hL)
theorem sw_cmple {x z : Int32} {off : Int} {tgt : Nat} (hd : decode y.2.1 pc = .ok (.if_icmp .le off, 3)) (ht : (pc : Int) + off = (tgt : Int)) (kt : x ≤ z → SW G y d bc bs tgt L st h P) (kf : ¬ x ≤ z → SW G y d bc bs (pc + 3) L st h P) : SW G y d bc bs pc L (.int z :: .int x :: st) h P := by
  intro p l e R s m args below meth c H locs ls cells slots mc ms C h1 h2 h3 h4 hI hS hL
  exact lv_icmp_le C.x C.b hd ht (fun hc => kt hc p l e R s m args below meth c H locs ls cells slots mc ms C h1 h2 h3 h4 hI hS hL) (fun hc => kf hc p l e R s m args below meth c H locs ls cells slots mc ms C h1 h2 h3 h4 hI hS hL)
theorem sw_goto {off : Int} {tgt : Nat} (hd : decode y.2.1 pc = .ok (.goto off, 3)) (ht : (pc : Int) + off = (tgt : Int)) (k : SW G y d bc bs tgt L st h P) : SW G y d bc bs pc L st h P := by
  intro p l e R s m args below meth c H locs ls cells slots mc ms C h1 h2 h3 h4 hI hS hL
  exact lv_goto C.x C.b hd ht (k p l e R s m args below meth c H locs ls cells slots mc ms C h1 h2 h3 h4 hI hS hL)
theorem sw_tsIn {dflt lo hi : Int} {offs : Array Int} {len : Nat} {x : Int32} {off : Int} {tgt : Nat} (hd : decode y.2.1 pc = .ok (.tableswitch dflt lo hi offs, len)) (g1 : ¬ x.toInt < lo) (g2 : ¬ hi < x.toInt) (ho : offs[(x.toInt - lo).toNat]? = some off) (ht : (pc : Int) + off = (tgt : Int)) (k : SW G y d bc bs tgt L st h P) : SW G y d bc bs pc L (.int x :: st) h P := by
  intro p l e R s m args below meth c H locs ls cells slots mc ms C h1 h2 h3 h4 hI hS hL
  exact lv_tableIn C.x C.b hd g1 g2 ho ht (k p l e R s m args below meth c H locs ls cells slots mc ms C h1 h2 h3 h4 hI hS hL)
theorem sw_tsOut {dflt lo hi : Int} {offs : Array Int} {len : Nat} {x : Int32} {tgt : Nat} (hd : decode y.2.1 pc = .ok (.tableswitch dflt lo hi offs, len)) (g1 : x.toInt < lo ∨ hi < x.toInt) (ht : (pc : Int) + dflt = (tgt : Int)) (k : SW G y d bc bs tgt L st h P) : SW G y d bc bs pc L (.int x :: st) h P := by
  intro p l e R s m args below meth c H locs ls cells slots mc ms C h1 h2 h3 h4 hI hS hL
  exact lv_tableOut C.x C.b hd g1 ht (k p l e R s m args below meth c H locs ls cells slots mc ms C h1 h2 h3 h4 hI hS hL)
theorem sw_dup {v : Value} (hd : decode y.2.1 pc = .ok (.dup, 1)) (hv : v.category = 1) (k : SW G y d bc bs (pc + 1) L (v :: v :: st) h P) : SW G y d bc bs pc L (v :: st) h P := by
  intro p l e R s m args below meth c H locs ls cells slots mc ms C h1 h2 h3 h4 hI hS hL
  exact lv_dup C.x C.b hd (by rw [sg_catT C.E.fc]; exact hv) (k p l e R s m args below meth c H locs ls cells slots mc ms C h1 h2 h3 h4 hI hS hL)
theorem sw_pop {v : Value} (hd : decode y.2.1 pc = .ok (.pop, 1)) (hv : v.category = 1) (k : SW G y d bc bs (pc + 1) L st h P) : SW G y d bc bs pc L (v :: st) h P := by
  intro p l e R s m args below meth c H locs ls cells slots mc ms C h1 h2 h3 h4 hI hS hL
  exact lv_pop C.x C.b hd (by rw [sg_catT C.E.fc]; exact hv) (k p l e R s m args below meth c H locs ls cells slots mc ms C h1 h2 h3 h4 hI hS hL)
theorem sw_dup2 {v w : Value} (hd : decode y.2.1 pc = .ok (.dup2, 1)) (hv : v.category = 1) (hw : w.category = 1) (k : SW G y d bc bs (pc + 1) L (v :: w :: v :: w :: st) h P) : SW G y d bc bs pc L (v :: w :: st) h P := by
  intro p l e R s m args below meth c H locs ls cells slots mc ms C h1 h2 h3 h4 hI hS hL
  exact lv_dup2_11 C.x C.b hd (by rw [sg_catT C.E.fc]; exact hv) (by rw [sg_catT C.E.fc]; exact hw) (k p l e R s m args below meth c H locs ls cells slots mc ms C h1 h2 h3 h4 hI hS hL)
theorem sg_rne {i j : Nat} {s : State} (hE : sg_E G s) (hi : i < 8) (hj : j < 8) : sg_ad G (1000 + i) = sg_ad G (1000 + j) ↔ i = j := by
  unfold sg_ad
  rw [if_neg (by omega), if_neg (by omega)]
  exact ⟨hE.inj i j hi hj, fun q => by rw [q]⟩
theorem sw_acmpne {i j : Nat} {off : Int} {tgt : Nat} (hd : decode y.2.1 pc = .ok (.if_acmp .ne off, 3)) (ht : (pc : Int) + off = (tgt : Int)) (hi : i < 8) (hj : j < 8) (kt : ¬ i = j → SW G y d bc bs tgt L st h P) (kf : i = j → SW G y d bc bs (pc + 3) L st h P) : SW G y d bc bs pc L (.ref (1000 + j) :: .ref (1000 + i) :: st) h P := by
  intro p l e R s m args below meth c H locs ls cells slots mc ms C h1 h2 h3 h4 hI hS hL
  exact lv_acmp_ne (rx := some (sg_ad G (1000 + i))) (ry := some (sg_ad G (1000 + j))) C.x C.b hd ht (fun hc => kt (fun q => hc (by rw [(sg_rne C.E hi hj).mpr q])) p l e R s m args below meth c H locs ls cells slots mc ms C h1 h2 h3 h4 hI hS hL) (fun hc => kf ((sg_rne C.E hi hj).mp (Option.some.inj hc)) p l e R s m args below meth c H locs ls cells slots mc ms C h1 h2 h3 h4 hI hS hL)
theorem sw_ireturn {v : Int32} {ty : FieldType} (hd : decode y.2.1 pc = .ok (.ireturn, 1)) (hr : y.2.2.2 = some ty) (hn : narrow ty (.int v) = .int v) (hP : P (some (.int v)) h) : SW G y d bc bs pc L [.int v] h P := by
  intro p l e R s m args below meth c H locs ls cells slots mc ms C h1 h2 h3 h4 hI hS hL
  refine W.widen (k := mc) (n := ms) (by omega) (by omega) ?_
  exact W.zret C.x C.b (C.rt.trans hr) hn (fun t ht hW => ⟨⟨some (.int v), h, rfl, by rw [ht]; exact hI, hP⟩, hS.F ht⟩) hS.2.2 hd (hlocks := C.lk)
theorem sw_lreturn {v : Int64} (hd : decode y.2.1 pc = .ok (.lreturn, 1)) (hr : y.2.2.2 = some .long) (hP : P (some (.long v)) h) : SW G y d bc bs pc L [.long v] h P := by
  intro p l e R s m args below meth c H locs ls cells slots mc ms C h1 h2 h3 h4 hI hS hL
  refine W.widen (k := mc) (n := ms) (by omega) (by omega) ?_
  exact W.lret C.x C.b (C.rt.trans hr) (fun t ht hW => ⟨⟨some (.long v), h, rfl, by rw [ht]; exact hI, hP⟩, hS.F ht⟩) hS.2.2 hd (hlocks := C.lk)
theorem sw_return (hd : decode y.2.1 pc = .ok (.return_, 1)) (hr : y.2.2.2 = none) (hP : P none h) : SW G y d bc bs pc L [] h P := by
  intro p l e R s m args below meth c H locs ls cells slots mc ms C h1 h2 h3 h4 hI hS hL
  refine W.widen (k := mc) (n := ms) (by omega) (by omega) ?_
  exact W.vret C.x C.b (C.rt.trans hr) (fun t ht hW => ⟨⟨none, h, rfl, by rw [ht]; exact hI, hP⟩, hS.F ht⟩) hS.2.2 hd (hlocks := C.lk)
end ROWS2
end
section

theorem sg_I.put {G : SG} {h : AH} {H H1 : Heap} {a : Nat} {e0 e : AE} (hI : sg_I G h H) (hk : h[a]? = some e0) (he : va_at (sg_D G) vwCl (sg_ad G a, sg_te G e) H1) (hz : H1.size = H.size) (oq : ∀ q : Nat, q ≠ sg_ad G a → H1[q]? = H[q]?) : sg_I G (h.set a e) H1 := by
  refine ⟨?_, by rw [List.length_set]; exact hI.2.1, by rw [List.length_set, hz]; exact hI.2.2.1, fun q => by rw [List.length_set, hz]; exact hI.2.2.2 q⟩
  rw [sg_en_set, ← sg_ad_lt (hI.lt hk)]
  exact va_P.set hI.1 (sg_Dn G h) (hI.at hk) he oq
theorem sg_Aad {G : SG} {a : Nat} (h : a < 1000) : sg_A G (sg_ad G a) := by
  rw [sg_ad_lt h]; exact Nat.le_add_right _ _
theorem sg_I.push {G : SG} {h : AH} {H H1 : Heap} {e : AE} (hI : sg_I G h H) (hal : sg_al G = true) (hl : h.length < 1000) (he : va_at (sg_D G) vwCl (H.size, sg_te G e) H1) (hz : H1.size = H.size + 1) (oq : ∀ q : Nat, q < H.size → H1[q]? = H[q]?) : sg_I G (h ++ [e]) H1 ∧ H.size = sg_ad G h.length := by
  have hs := hI.2.2.2 hal
  refine ⟨⟨?_, by simp; omega, by simp; omega, fun _ => by simp; omega⟩, by rw [sg_ad_lt hl, hs]⟩
  rw [sg_en_push, ← hs]
  refine (hI.1.kept (fun k q hk => oq _ ((hI.1 k q hk).lt))).app (fun k q hk => ?_)
  have hk1 : k < 1 := (List.getElem?_eq_some_iff.mp hk).1
  rw [show k = 0 by omega] at hk
  cases hk
  exact he
theorem sg_set_self {h : AH} {a : Nat} {e0 e : AE} (hk : h[a]? = some e0) : (h.set a e)[a]? = some e := List.getElem?_set_self (List.getElem?_eq_some_iff.mp hk).1
theorem sg_set_ne {h : AH} {a j : Nat} {e : AE} (hj : j ≠ a) : (h.set a e)[j]? = h[j]? := List.getElem?_set_ne (Ne.symm hj)
/-- field kf of the class ci, by the pool's place ix of own -/
def fl_ok (own : String) (ix ci kf : Nat) (ty : FieldType) (fin : Bool) : Prop := ∃ (C : String) (T : u_T) (N : Nat) (ty0 : Nat → FieldType), vwCl[ci]? = some (C, T, N) ∧ kf < N ∧ Cond.fieldLink own ix (T kf).1 (T kf).2.1 (T kf).2.2.1 ∈ wtab ∧ (∀ w ∈ u_ws C T N, w ∈ wtab) ∧ (∀ k, k < N → parseFieldDescriptor (T k).2.2.1 = some (ty0 k)) ∧ (∀ a, a < N → ∀ b, b < N → a ≠ b → (T a).2.1 ≠ (T b).2.1) ∧ ty0 kf = ty ∧ (T kf).2.2.2 = fin ∧ (T kf).1 = C
section ROWS3
variable {G : SG} {y : MI} {d bc bs pc : Nat} {L st : List Value} {h : AH} {P : Option Value → AH → Prop}
theorem sw_getf {ix ci kf a : Nat} {ty : FieldType} {fin : Bool} {fs : List Value} {v : Value} (hd : decode y.2.1 pc = .ok (.getfield ix, 3)) (hf : fl_ok y.1.cls ix ci kf ty fin) (hk : h[a]? = some (.inr (ci, fs))) (hv : fs[kf]? = some v) (k : SW G y d bc bs (pc + 3) L (v :: st) h P) : SW G y d bc bs pc L (.ref a :: st) h P := by
  intro p l e R s m args below meth c H locs ls cells slots mc ms C h1 h2 h3 h4 hI hS hL
  obtain ⟨C0, T, N, ty0, hc, hkN, hw, hin, hty, hnm, -, -, -⟩ := hf
  have he : (sg_en G h)[a]? = some (sg_ad G a, .inr (ci, fs.map (sg_tr G))) := hI.at hk
  exact va_get C.x C.b C.ts hin C.own C.E.K hI.1 a he hc kf hkN (C.ts _ hw) (fun _ q => q) (v := sg_tr G v) (by rw [List.getElem?_map, hv]; rfl) hd (k p l e R s m args below meth c H locs ls cells slots mc ms C h1 h2 h3 h4 hI hS hL)
theorem sw_put0 {ix ci kf a : Nat} {ty : FieldType} {fs : List Value} {v : Value} (hd : decode y.2.1 pc = .ok (.putfield ix, 3)) (hf : fl_ok y.1.cls ix ci kf ty false) (hk : h[a]? = some (.inr (ci, fs))) (hl : kf < fs.length) (hn : narrow ty (sg_tr G v) = sg_tr G v) (hft : fits ty (sg_tr G v) = true)
    (kk : ∀ h' : AH, h'.length = h.length → h'[a]? = some (.inr (ci, fs.set kf v)) → (∀ j, j ≠ a → h'[j]? = h[j]?) → SW G y d bc bs (pc + 3) L st h' P) : SW G y d bc bs pc L (v :: .ref a :: st) h P := by
  intro p l e R s m args below meth c H locs ls cells slots mc ms C h1 h2 h3 h4 hI hS hL
  obtain ⟨C0, T, N, ty0, hc, hkN, hw, hin, hty, hnm, hty1, hfin, hdec⟩ := hf
  have he : (sg_en G h)[a]? = some (sg_ad G a, .inr (ci, fs.map (sg_tr G))) := hI.at hk
  have hap := va_apart (own := y.1.cls) C.ts hin ty0 hty hnm C.E.K hc
  obtain ⟨r, g1, cell, q1, q2, q3, q4⟩ := hI.1 a _ he
  have hr : r = (C0, T, N) := Option.some.inj (g1.symm.trans hc)
  subst hr
  obtain ⟨hS0, hfc, kC, hkC, hkind⟩ := C.E.K.1 ci _ hc
  obtain ⟨cf, kf', fi, f, hi, hsl⟩ := hS0 kf hkN
  have hlay := C.ts _ (hin _ (u_in_lay hkN))
  unfold u_lay at hlay
  rw [if_neg (by rw [hfin]; decide)] at hlay
  have hst := (u_facts hfc hkC (u_lays C.ts hin hkN) hi).1
  have h6 := u_store hfc hkC hkind hlay hi ((hty kf hkN).trans (congrArg some hty1)) hn hft
  refine W.putK C.x C.b (f := f) ⟨C.own, C.ts _ hw, ⟨_, _, _, hi⟩, hst⟩ (by rw [q2]; exact h6) q1 q3 (by rw [hsl]; exact k2_hasslot (q4 kf hkN)) rfl rfl hd fun H' e1 e2 e3 => ?_
  rw [hsl] at e1
  have hat : va_at (sg_D G) vwCl (sg_ad G a, sg_te G (.inr (ci, fs.set kf v))) H' := by
    refine ⟨_, hc, t_OB.to (V := updV (vp_V (fs.map (sg_tr G))) kf (sg_tr G v)) ⟨_, e1, q2, q3, t_set q4 hap hkN _⟩ (fun j _ => ?_)⟩
    rw [vp_updV_set (by rw [List.length_map]; exact hl), List.map_set]
  exact kk _ (List.length_set ..) (sg_set_self hk) (fun j hj => sg_set_ne hj) p l e R s m args below meth c H' _ ls cells slots mc ms C h1 h2 h3 h4 (hI.put hk hat e2 e3) (hS.put e2 e3 (sg_Aad (hI.lt hk))) hL
theorem sw_puti {ix ci kf a : Nat} {fs : List Value} {x : Int32} (hd : decode y.2.1 pc = .ok (.putfield ix, 3)) (hf : fl_ok y.1.cls ix ci kf .int false) (hk : h[a]? = some (.inr (ci, fs))) (hl : kf < fs.length)
    (kk : ∀ h' : AH, h'.length = h.length → h'[a]? = some (.inr (ci, fs.set kf (.int x))) → (∀ j, j ≠ a → h'[j]? = h[j]?) → SW G y d bc bs (pc + 3) L st h' P) : SW G y d bc bs pc L (.int x :: .ref a :: st) h P := sw_put0 hd hf hk hl rfl rfl kk
theorem sw_putz {ix ci kf a : Nat} {fs : List Value} {x : Int32} (hd : decode y.2.1 pc = .ok (.putfield ix, 3)) (hf : fl_ok y.1.cls ix ci kf .boolean false) (hx : x = 0 ∨ x = 1) (hk : h[a]? = some (.inr (ci, fs))) (hl : kf < fs.length)
    (kk : ∀ h' : AH, h'.length = h.length → h'[a]? = some (.inr (ci, fs.set kf (.int x))) → (∀ j, j ≠ a → h'[j]? = h[j]?) → SW G y d bc bs (pc + 3) L st h' P) : SW G y d bc bs pc L (.int x :: .ref a :: st) h P :=
  sw_put0 hd hf hk hl (by rcases hx with rfl | rfl <;> rfl) (by rcases hx with rfl | rfl <;> rfl) kk
theorem sw_puta {ix ci kf a b : Nat} {nm : String} {fs : List Value} (hd : decode y.2.1 pc = .ok (.putfield ix, 3)) (hf : fl_ok y.1.cls ix ci kf (.object nm) false) (hk : h[a]? = some (.inr (ci, fs))) (hl : kf < fs.length)
    (kk : ∀ h' : AH, h'.length = h.length → h'[a]? = some (.inr (ci, fs.set kf (.ref b))) → (∀ j, j ≠ a → h'[j]? = h[j]?) → SW G y d bc bs (pc + 3) L st h' P) : SW G y d bc bs pc L (.ref b :: .ref a :: st) h P := sw_put0 hd hf hk hl rfl rfl kk
/-- a final field, in a constructor -/
theorem sw_putF {ix ci kf a : Nat} {ty : FieldType} {fs : List Value} {v : Value} (hd : decode y.2.1 pc = .ok (.putfield ix, 3)) (hf : fl_ok y.1.cls ix ci kf ty true) (hin2 : y.1.name = "<init>") (hown : ∀ r : vw_C, vwCl[ci]? = some r → r.1 = y.1.cls) (hk : h[a]? = some (.inr (ci, fs))) (hl : kf < fs.length) (hn : narrow ty (sg_tr G v) = sg_tr G v) (hft : fits ty (sg_tr G v) = true)
    (k : SW G y d bc bs (pc + 3) L st (h.set a (.inr (ci, fs.set kf v))) P) : SW G y d bc bs pc L (v :: .ref a :: st) h P := by
  intro p l e R s m args below meth c H locs ls cells slots mc ms C h1 h2 h3 h4 hI hS hL
  obtain ⟨C0, T, N, ty0, hc, hkN, hw, hin, hty, hnm, hty1, hfin, hdec⟩ := hf
  have he : (sg_en G h)[a]? = some (sg_ad G a, .inr (ci, fs.map (sg_tr G))) := hI.at hk
  have hap := va_apart (own := y.1.cls) C.ts hin ty0 hty hnm C.E.K hc
  obtain ⟨r, g1, cell, q1, q2, q3, q4⟩ := hI.1 a _ he
  have hr : r = (C0, T, N) := Option.some.inj (g1.symm.trans hc)
  subst hr
  obtain ⟨hS0, hfc, kC, hkC, hkind⟩ := C.E.K.1 ci _ hc
  obtain ⟨cf, kf', fi, f, hi, hsl⟩ := hS0 kf hkN
  have hlay := C.ts _ (hin _ (u_in_lay hkN))
  unfold u_lay at hlay
  rw [if_pos hfin] at hlay
  have hst := (u_facts hfc hkC (u_lays C.ts hin hkN) hi).1
  have hcf : m.cls = cf := by
    obtain ⟨_, _, c', _, _, _, -, -, hf', -, -, -, hown2, -⟩ := Cond.laysFinal_spec hlay
    have e1 : c' = cf := by have := hi.symm.trans hf'; simp at this; exact this.1.symm
    rw [hdec, show C0 = y.1.cls from hown _ hc] at hown2
    rw [← e1]; exact Option.some.inj (C.own.symm.trans hown2)
  have h6 := u_fits hfc hkC hkind (Or.inr hlay) hi ((hty kf hkN).trans (congrArg some hty1)) hn hft
  refine W.putFinK C.x C.b C.own (C.ts _ hw) hi hst hcf (C.nm.trans hin2) (by rw [q2]; exact h6) q1 q3 (by rw [hsl]; exact k2_hasslot (q4 kf hkN)) rfl rfl hd fun H' e1 e2 e3 => ?_
  rw [hsl] at e1
  have hat : va_at (sg_D G) vwCl (sg_ad G a, sg_te G (.inr (ci, fs.set kf v))) H' := by
    refine ⟨_, hc, t_OB.to (V := updV (vp_V (fs.map (sg_tr G))) kf (sg_tr G v)) ⟨_, e1, q2, q3, t_set q4 hap hkN _⟩ (fun j _ => ?_)⟩
    rw [vp_updV_set (by rw [List.length_map]; exact hl), List.map_set]
  exact k p l e R s m args below meth c H' _ ls cells slots mc ms C h1 h2 h3 h4 (hI.put hk hat e2 e3) (hS.put e2 e3 (sg_Aad (hI.lt hk))) hL
-- arrays
theorem sw_iald {a n : Nat} {f : Nat → Int32} {i v : Int32} (hd : decode y.2.1 pc = .ok (.iaload, 1)) (hk : h[a]? = some (.inl (0, n, .inl f))) (hin : vp_in i n) (hv : f i.toNatClampNeg = v) (k : SW G y d bc bs (pc + 1) L (.int v :: st) h P) : SW G y d bc bs pc L (.int i :: .ref a :: st) h P := by
  intro p l e R s m args below meth c H locs ls cells slots mc ms C h1 h2 h3 h4 hI hS hL
  subst hv
  exact va_iald C.x C.b C.E.K hI.1 a 0 (hI.at hk) rfl hin hd (k p l e R s m args below meth c H locs ls cells slots mc ms C h1 h2 h3 h4 hI hS hL)
theorem sw_zald {a n : Nat} {f : Nat → Int32} {i v : Int32} (hd : decode y.2.1 pc = .ok (.baload, 1)) (hk : h[a]? = some (.inl (1, n, .inl f))) (hin : vp_in i n) (hv : f i.toNatClampNeg = v) (k : SW G y d bc bs (pc + 1) L (.int v :: st) h P) : SW G y d bc bs pc L (.int i :: .ref a :: st) h P := by
  intro p l e R s m args below meth c H locs ls cells slots mc ms C h1 h2 h3 h4 hI hS hL
  subst hv
  exact va_zald C.x C.b C.E.K hI.1 a 1 (hI.at hk) rfl hin hd (k p l e R s m args below meth c H locs ls cells slots mc ms C h1 h2 h3 h4 hI hS hL)
theorem sw_lald {a n : Nat} {f : Nat → Int64} {i : Int32} (hd : decode y.2.1 pc = .ok (.laload, 1)) (hk : h[a]? = some (.inl (2, n, .inr (.inl f)))) (hin : vp_in i n) (k : SW G y d bc bs (pc + 1) L (.long (f i.toNatClampNeg) :: st) h P) : SW G y d bc bs pc L (.int i :: .ref a :: st) h P := by
  intro p l e R s m args below meth c H locs ls cells slots mc ms C h1 h2 h3 h4 hI hS hL
  exact va_lald C.x C.b C.E.K hI.1 a 2 (hI.at hk) rfl hin hd (k p l e R s m args below meth c H locs ls cells slots mc ms C h1 h2 h3 h4 hI hS hL)
theorem sw_aald {a n b : Nat} {f : Nat → Option Nat} {i : Int32} (hd : decode y.2.1 pc = .ok (.aaload, 1)) (hk : h[a]? = some (.inl (3, n, .inr (.inr f)))) (hin : vp_in i n) (hv : f i.toNatClampNeg = some b) (k : SW G y d bc bs (pc + 1) L (.ref b :: st) h P) : SW G y d bc bs pc L (.int i :: .ref a :: st) h P := by
  intro p l e R s m args below meth c H locs ls cells slots mc ms C h1 h2 h3 h4 hI hS hL
  refine va_aldq C.x C.b C.E.K hI.1 a 3 (hI.at hk) rfl hin hd ?_
  show W p l e R s m args below meth c H locs cells slots _ (F0 m (pc + 1) ls (va_rf ((f i.toNatClampNeg).map (sg_ad G)) :: _))
  rw [hv]
  exact (k p l e R s m args below meth c H locs ls cells slots mc ms C h1 h2 h3 h4 hI hS hL)
theorem sw_iast {a n : Nat} {f : Nat → Int32} {i x : Int32} (hd : decode y.2.1 pc = .ok (.iastore, 1)) (hk : h[a]? = some (.inl (0, n, .inl f))) (hin : vp_in i n)
    (kk : ∀ h' : AH, h'.length = h.length → h'[a]? = some (.inl (0, n, .inl (upd f i.toNatClampNeg x))) → (∀ j, j ≠ a → h'[j]? = h[j]?) → SW G y d bc bs (pc + 1) L st h' P) : SW G y d bc bs pc L (.int x :: .int i :: .ref a :: st) h P := by
  intro p l e R s m args below meth c H locs ls cells slots mc ms C h1 h2 h3 h4 hI hS hL
  have he : (sg_en G h)[a]? = some (sg_ad G a, .inl (sg_t G 0, n, .inl f)) := hI.at hk
  refine W.iast C.x C.b (hI.1 a _ he) ((C.E.K.2 0 _ rfl).1 n (fun j => .int (f j))) (fun q => by cases q) (by show ¬ (i < 0 ∨ (arrV _ _ _).slots.size ≤ _); rw [arrV_size]; exact hin) rfl rfl hd fun H' e1 e2 e3 => ?_
  have hat : va_at (sg_D G) vwCl (sg_ad G a, sg_te G (.inl (0, n, .inl (upd f i.toNatClampNeg x)))) H' := by
    show H'[sg_ad G a]? = some (vp_cell _ _)
    rw [e1, vp_cell_i, vp_cell_i, arrV_store]
    congr 2
    funext q
    by_cases hq : q = i.toNatClampNeg
    · subst hq; simp [updV, upd]
    · simp [updV, upd, hq]
  exact kk _ (List.length_set ..) (sg_set_self hk) (fun j hj => sg_set_ne hj) p l e R s m args below meth c H' _ ls cells slots mc ms C h1 h2 h3 h4 (hI.put hk hat e2 e3) (hS.put e2 e3 (sg_Aad (hI.lt hk))) hL
theorem sw_zast {a n : Nat} {f : Nat → Int32} {i x : Int32} (hd : decode y.2.1 pc = .ok (.bastore, 1)) (hk : h[a]? = some (.inl (1, n, .inl f))) (hin : vp_in i n) (hx : x = 0 ∨ x = 1)
    (kk : ∀ h' : AH, h'.length = h.length → h'[a]? = some (.inl (1, n, .inl (upd f i.toNatClampNeg x))) → (∀ j, j ≠ a → h'[j]? = h[j]?) → SW G y d bc bs (pc + 1) L st h' P) : SW G y d bc bs pc L (.int x :: .int i :: .ref a :: st) h P := by
  intro p l e R s m args below meth c H locs ls cells slots mc ms C h1 h2 h3 h4 hI hS hL
  have he : (sg_en G h)[a]? = some (sg_ad G a, .inl (sg_t G 1, n, .inl f)) := hI.at hk
  refine W.zast C.x C.b (hI.1 a _ he) ((C.E.K.2 1 _ rfl).1 n (fun j => .int (f j))) (fun q => by cases q) (by show ¬ (i < 0 ∨ (arrV _ _ _).slots.size ≤ _); rw [arrV_size]; exact hin) rfl rfl hd fun H' e1 e2 e3 => ?_
  have hnx : narrow .boolean (.int x) = .int x := by rcases hx with rfl | rfl <;> rfl
  rw [hnx] at e1
  have hat : va_at (sg_D G) vwCl (sg_ad G a, sg_te G (.inl (1, n, .inl (upd f i.toNatClampNeg x)))) H' := by
    show H'[sg_ad G a]? = some (vp_cell _ _)
    rw [e1, vp_cell_i, vp_cell_i, arrV_store]
    congr 2
    funext q
    by_cases hq : q = i.toNatClampNeg
    · subst hq; simp [updV, upd]
    · simp [updV, upd, hq]
  exact kk _ (List.length_set ..) (sg_set_self hk) (fun j hj => sg_set_ne hj) p l e R s m args below meth c H' _ ls cells slots mc ms C h1 h2 h3 h4 (hI.put hk hat e2 e3) (hS.put e2 e3 (sg_Aad (hI.lt hk))) hL
def updL (f : Nat → Int64) (k : Nat) (x : Int64) : Nat → Int64 := fun j => if j = k then x else f j
theorem sw_last {a n : Nat} {f : Nat → Int64} {i : Int32} {x : Int64} (hd : decode y.2.1 pc = .ok (.lastore, 1)) (hk : h[a]? = some (.inl (2, n, .inr (.inl f)))) (hin : vp_in i n)
    (kk : ∀ h' : AH, h'.length = h.length → h'[a]? = some (.inl (2, n, .inr (.inl (updL f i.toNatClampNeg x)))) → (∀ j, j ≠ a → h'[j]? = h[j]?) → SW G y d bc bs (pc + 1) L st h' P) : SW G y d bc bs pc L (.long x :: .int i :: .ref a :: st) h P := by
  intro p l e R s m args below meth c H locs ls cells slots mc ms C h1 h2 h3 h4 hI hS hL
  have he : (sg_en G h)[a]? = some (sg_ad G a, .inl (sg_t G 2, n, .inr (.inl f))) := hI.at hk
  refine W.last C.x C.b (hI.1 a _ he) ((C.E.K.2 2 _ rfl).1 n (fun j => .long (f j))) (fun q => by cases q) (by show ¬ (i < 0 ∨ (arrV _ _ _).slots.size ≤ _); rw [arrV_size]; exact hin) rfl rfl hd fun H' e1 e2 e3 => ?_
  have hat : va_at (sg_D G) vwCl (sg_ad G a, sg_te G (.inl (2, n, .inr (.inl (updL f i.toNatClampNeg x))))) H' := by
    show H'[sg_ad G a]? = some (vp_cell _ _)
    rw [e1, vp_cell_l, vp_cell_l, arrV_store]
    congr 2
    funext q
    by_cases hq : q = i.toNatClampNeg
    · subst hq; simp [updV, updL]
    · simp [updV, updL, hq]
  exact kk _ (List.length_set ..) (sg_set_self hk) (fun j hj => sg_set_ne hj) p l e R s m args below meth c H' _ ls cells slots mc ms C h1 h2 h3 h4 (hI.put hk hat e2 e3) (hS.put e2 e3 (sg_Aad (hI.lt hk))) hL
theorem sw_alen {a t n : Nat} {x : (Nat → Int32) ⊕ (Nat → Int64) ⊕ (Nat → Option Nat)} {v : Int32} (hd : decode y.2.1 pc = .ok (.arraylength, 1)) (hk : h[a]? = some (.inl (t, n, x))) (ht : t < 4) (hv : Int32.ofNat n = v) (k : SW G y d bc bs (pc + 1) L (.int v :: st) h P) : SW G y d bc bs pc L (.ref a :: st) h P := by
  intro p l e R s m args below meth c H locs ls cells slots mc ms C h1 h2 h3 h4 hI hS hL
  have ht' : ∃ ty, (sg_ty G)[t]? = some (sg_t G t, ty) := by
    rcases (show t = 0 ∨ t = 1 ∨ t = 2 ∨ t = 3 by omega) with rfl | rfl | rfl | rfl <;> exact ⟨_, rfl⟩
  obtain ⟨ty, ht'⟩ := ht'
  rcases x with f | f | f
  · exact va_alen C.x C.b C.E.K hI.1 a t (x := (n, .inl f)) (hI.at hk) ht' hv hd (k p l e R s m args below meth c H locs ls cells slots mc ms C h1 h2 h3 h4 hI hS hL)
  · exact va_alen C.x C.b C.E.K hI.1 a t (x := (n, .inr (.inl f))) (hI.at hk) ht' hv hd (k p l e R s m args below meth c H locs ls cells slots mc ms C h1 h2 h3 h4 hI hS hL)
  · exact va_alen C.x C.b C.E.K hI.1 a t (x := (n, .inr (.inr (.inr (.inr (fun i => (f i).map (sg_ad G))))))) (hI.at hk) ht' hv hd (k p l e R s m args below meth c H locs ls cells slots mc ms C h1 h2 h3 h4 hI hS hL)
-- the script
theorem sw_sld {i : Int32} (hd : decode y.2.1 pc = .ok (.iaload, 1)) (hx : sg_ad G 1999 = (sg_x G).1) (hin : vp_in i (sg_x G).2.1) (k : SW G y d bc bs (pc + 1) L (.int ((sg_x G).2.2 i.toNatClampNeg) :: st) h P) : SW G y d bc bs pc L (.int i :: .ref 1999 :: st) h P := by
  intro p l e R s m args below meth c H locs ls cells slots mc ms C h1 h2 h3 h4 hI hS hL
  show W p l e R s m args below meth c H locs cells slots _ (F0 m pc ls (.int i :: .ref (sg_ad G 1999) :: _))
  rw [hx]
  exact va_sld C.x C.b C.E.xs.1 (Nat.lt_of_lt_of_le C.E.xs.2 C.E.oz) (Nat.not_le.mpr C.E.xs.2) hS hin hd (k p l e R s m args below meth c H locs ls cells slots mc ms C h1 h2 h3 h4 hI hS hL)
theorem sw_slen (hd : decode y.2.1 pc = .ok (.arraylength, 1)) (hx : sg_ad G 1999 = (sg_x G).1) (k : SW G y d bc bs (pc + 1) L (.int (Int32.ofNat (sg_x G).2.1) :: st) h P) : SW G y d bc bs pc L (.ref 1999 :: st) h P := by
  intro p l e R s m args below meth c H locs ls cells slots mc ms C h1 h2 h3 h4 hI hS hL
  show W p l e R s m args below meth c H locs cells slots _ (F0 m pc ls (.ref (sg_ad G 1999) :: _))
  rw [hx]
  exact va_slen C.x C.b C.E.xs.1 (Nat.lt_of_lt_of_le C.E.xs.2 C.E.oz) (Nat.not_le.mpr C.E.xs.2) hS hd (k p l e R s m args below meth c H locs ls cells slots mc ms C h1 h2 h3 h4 hI hS hL)
-- old cells
theorem sw_gets {ix : Nat} {C0 nm ds : String} {v : Value} (hd : decode y.2.1 pc = .ok (.getstatic ix, 3)) (hw : Cond.fieldLink y.1.cls ix C0 nm ds ∈ wtab) (hq : (C0, nm, ds, v) ∈ ro_st) (k : SW G y d bc bs (pc + 3) L (v :: st) h P) : SW G y d bc bs pc L st h P := by
  intro p l e R s m args below meth c H locs ls cells slots mc ms C h1 h2 h3 h4 hI hS hL
  exact va_gets C.x C.b (C.E.st _ hq) hS C.own (C.ts _ hw) (fun _ q => q) hd (k p l e R s m args below meth c H locs ls cells slots mc ms C h1 h2 h3 h4 hI hS hL)
theorem sw_getr {ix a : Nat} {o nm ds : String} {v : Value} (hd : decode y.2.1 pc = .ok (.getfield ix, 3)) (hw : Cond.fieldLink y.1.cls ix o nm ds ∈ wtab) (hq : (a, o, nm, ds, v) ∈ ro_fd) (k : SW G y d bc bs (pc + 3) L (v :: st) h P) : SW G y d bc bs pc L (.ref a :: st) h P := by
  intro p l e R s m args below meth c H locs ls cells slots mc ms C h1 h2 h3 h4 hI hS hL
  exact vk_getf C.x C.b (C.E.fd _ hq) hS C.own (C.ts _ hw) (fun _ q => q) hd (k p l e R s m args below meth c H locs ls cells slots mc ms C h1 h2 h3 h4 hI hS hL)
theorem sw_getrN {ix a : Nat} {o nm ds : String} {v : Value} (hd : decode y.2.1 pc = .ok (.getfield ix, 3)) (hw : (y.1.cls, ix, o, nm, ds) ∈ ro_nf) (hq : (a, o, nm, ds, v) ∈ ro_fd) (k : SW G y d bc bs (pc + 3) L (v :: st) h P) : SW G y d bc bs pc L (.ref a :: st) h P := by
  intro p l e R s m args below meth c H locs ls cells slots mc ms C h1 h2 h3 h4 hI hS hL
  obtain ⟨cf, k0, fi, f, cell, g1, g2, g3, g4, g5, g6⟩ := (C.E.fd _ hq).kept hS.2.1
  exact va_Wgetf C.x C.b C.own (va_Nw.use rfl (C.E.nf _ hw)) g1 g2 g3 g4 (v := sg_tr G v) g5 rfl rfl hd (k p l e R s m args below meth c H locs ls cells slots mc ms C h1 h2 h3 h4 hI hS hL)
theorem sw_ialdR {a N : Nat} {cs : List Value} {i : Int32} {v : Value} (hd : decode y.2.1 pc = .ok (.iaload, 1)) (hq : (a, FieldType.int, N, cs) ∈ ro_ar) (hin : vp_in i N) (hv : cs.getD i.toNatClampNeg .null = v) (k : SW G y d bc bs (pc + 1) L (v :: st) h P) : SW G y d bc bs pc L (.int i :: .ref a :: st) h P := by
  intro p l e R s m args below meth c H locs ls cells slots mc ms C h1 h2 h3 h4 hI hS hL
  exact va_ti C.x C.b (C.E.ar _ hq) hS hin (v := sg_tr G v) (by rw [hv]) hd (k p l e R s m args below meth c H locs ls cells slots mc ms C h1 h2 h3 h4 hI hS hL)
theorem sw_baldR {a N : Nat} {cs : List Value} {i : Int32} {v : Value} (hd : decode y.2.1 pc = .ok (.baload, 1)) (hq : (a, FieldType.byte, N, cs) ∈ ro_ar) (hin : vp_in i N) (hv : cs.getD i.toNatClampNeg .null = v) (k : SW G y d bc bs (pc + 1) L (v :: st) h P) : SW G y d bc bs pc L (.int i :: .ref a :: st) h P := by
  intro p l e R s m args below meth c H locs ls cells slots mc ms C h1 h2 h3 h4 hI hS hL
  exact va_tb C.x C.b (C.E.ar _ hq) hS hin (v := sg_tr G v) (by rw [hv]) hd (k p l e R s m args below meth c H locs ls cells slots mc ms C h1 h2 h3 h4 hI hS hL)
theorem sw_aaldR {a N : Nat} {nm : String} {cs : List Value} {i : Int32} {v : Value} (hd : decode y.2.1 pc = .ok (.aaload, 1)) (hq : (a, FieldType.object nm, N, cs) ∈ ro_ar) (hin : vp_in i N) (hv : cs.getD i.toNatClampNeg .null = v) (k : SW G y d bc bs (pc + 1) L (v :: st) h P) : SW G y d bc bs pc L (.int i :: .ref a :: st) h P := by
  intro p l e R s m args below meth c H locs ls cells slots mc ms C h1 h2 h3 h4 hI hS hL
  obtain ⟨cell, g1, g2, g3, g4, g5, g6, g7⟩ := C.E.ar _ hq
  dsimp only at g1 g2 g4 g5 g6 g7
  have hlt : i.toNatClampNeg < N := Nat.not_le.mp fun q => hin (Or.inr q)
  have hin' : ¬ (i < 0 ∨ cell.slots.size ≤ i.toNatClampNeg) := by
    intro q
    rcases q with q | q
    · exact hin (Or.inl q)
    · omega
  exact W.aald (v := sg_tr G v) (ty := .object nm) C.x C.b (by rw [hS.2.1 _ (Array.getElem?_eq_some_iff.mp g1).1 g7]; exact g1) g2 rfl g3 hin' (by rw [g6 _ hlt, hv]) rfl rfl hd (k p l e R s m args below meth c H locs ls cells slots mc ms C h1 h2 h3 h4 hI hS hL)
theorem sw_alenR {a N : Nat} {ty : FieldType} {cs : List Value} {v : Int32} (hd : decode y.2.1 pc = .ok (.arraylength, 1)) (hq : (a, ty, N, cs) ∈ ro_ar) (hv : Int32.ofNat N = v) (k : SW G y d bc bs (pc + 1) L (.int v :: st) h P) : SW G y d bc bs pc L (.ref a :: st) h P := by
  intro p l e R s m args below meth c H locs ls cells slots mc ms C h1 h2 h3 h4 hI hS hL
  exact va_tlen C.x C.b (C.E.ar _ hq) hS hv hd (k p l e R s m args below meth c H locs ls cells slots mc ms C h1 h2 h3 h4 hI hS hL)
end ROWS3
end
section

/-- a method of the tables -/
def mi_ok (y : MI) : Prop := plainName y.1.cls = true ∧ Cond.code y.1 y.2.1 y.2.2.1 y.2.2.2 ∈ wtab ∧ Cond.initialized y.1.cls ∈ wtab ∧ (y.1.cls ≠ "java/lang/invoke/MethodHandle" ∧ y.1.cls ≠ "java/lang/invoke/VarHandle") ∧ y.2.2.1 ≤ 18
theorem mi_good {y : MI} (h : mi_ok y) : GoodIn wtab (Cond.code y.1 y.2.1 y.2.2.1 y.2.2.2 :: wtab) := by
  intro w hw
  rcases List.mem_cons.mp hw with rfl | hw
  · exact ⟨h.2.1, good_of_word (wtab_good h.2.1)⟩
  · exact ⟨hw, good_of_word (wtab_good hw)⟩
theorem sg_sl1 {vs : List Value} (h : ∀ v ∈ vs, v.category = 1) : lg_sl vs = vs.map Slot.val := by
  induction vs with
  | nil => rfl
  | cons v vs ih =>
    have h1 : ¬ v.category = 2 := by rw [h v List.mem_cons_self]; decide
    unfold lg_sl at ih ⊢
    rw [List.flatMap_cons, if_neg h1, ih (fun w hw => h w (List.mem_cons_of_mem _ hw))]
    rfl
theorem sg_entry {G : SG} {as : List Value} {n : Nat} (hf : (sg_f G).category = 1) (has : ∀ v ∈ as, v.category = 1) (hl : as.length ≤ n) : sg_L G (as ++ List.replicate (n - as.length) (.retAddr 0)) n ((lg_sl (as.map (sg_tr G)) ++ List.replicate (n - (lg_sl (as.map (sg_tr G))).length) Slot.unset).toArray) := by
  have h1 : lg_sl (as.map (sg_tr G)) = (as.map (sg_tr G)).map Slot.val := sg_sl1 (fun v hv => by
    obtain ⟨w, hw, rfl⟩ := List.mem_map.mp hv
    rw [sg_catT hf]; exact has w hw)
  have hlv := lv_entry (as.map (sg_tr G)) (n := n) (by rw [h1]; simpa using hl)
  refine ⟨hlv.1, hlv.2.1, by simp; omega, fun i v hi hv => ?_⟩
  rw [h1]
  by_cases hlt : i < as.length
  · rw [List.getElem?_append_left hlt] at hi
    rw [List.getElem?_toArray, List.getElem?_append_left (by simpa using hlt), List.getElem?_map, List.getElem?_map, hi]
    rfl
  · rw [List.getElem?_append_right (by omega)] at hi
    have := List.eq_of_mem_replicate (List.mem_of_getElem? hi)
    exact absurd this hv
/-- what a method comes to, as a contract -/
theorem sw_met {G : SG} {y : MI} {d bc bs : Nat} {as L0 : List Value} {h : AH} {P : Option Value → AH → Prop} {l : Launch} (hl : l.stackTraces = false) (hy : mi_ok y) (has : ∀ v ∈ as, v.category = 1) (hlen : as.length ≤ y.2.2.1) (hL0 : L0 = as ++ List.replicate (y.2.2.1 - as.length) (.retAddr 0)) (hM : SW G y d bc bs 0 L0 [] h P) :
    Met l y.1 (Cond.code y.1 y.2.1 y.2.2.1 y.2.2.2 :: wtab) ({ frames := d, cells := bc, slots := bs, locals := 37 * d } : Room) (va_Pc (as.map (sg_tr G)) (fun U => sg_E G U ∧ sg_I G h U.heap)) (sg_Q G P) bc bs (sg_A G) := by
  subst hL0
  refine Met.ofW (cc := y.2.1) (maxL := y.2.2.1) (ret := y.2.2.2) hy.1 rfl ?_
  intro p e s m args below meth c s₁ B hml hv
  obtain ⟨rfl, hE, hI⟩ := hv
  have hts := atoms_spec (ws := Cond.code y.1 y.2.1 y.2.2.1 y.2.2.2 :: wtab) B.pre
  have hown : s.vm.findClass y.1.cls = some m.cls := findClass_of_methodNamed B.named
  rw [lg_entry_eq]
  exact hM p l e _ s m _ below meth c s.heap [] _ 0 0 bc bs ⟨B.exec, B.bytes, hml, B.returns, B.notSynchronized, hown, fun w hw => hts w (List.mem_cons_of_mem _ hw), hE, Nat.le_refl _, Nat.le_refl _, hl, (name_of_methodNamed B.named B.method).1⟩ (by omega) (by omega) (Nat.le_refl _) (Nat.le_refl _) hI va_S.rf (sg_entry hE.fc has hlen)
theorem sw_preE {G : SG} {s U : State} {H : Heap} {locs : List Loc} (hE : sg_E G s) (hS : va_S (sg_A G) s.heap H locs) (hU : U.heap = H) (hW : s.WarmedH U.vm) : sg_E G U := hE.move hW (by rw [hU]; exact hS.1) (fun q h1 h2 => by rw [hU]; exact hS.2.1 q h1 h2)
theorem sw_blind {G : SG} {as : List Value} {h : AH} : FrameBlind (va_Pc as (fun U => sg_E G U ∧ sg_I G h U.heap)) := fun a _ g mk q => ⟨q.1, q.2.1.same g mk a, q.2.2⟩
theorem sw_fin {G : SG} {p : Program} {l : Launch} {e : Env} {R : Room} {s : State} {m : MethodId} {args : Array Value} {below : List Frame} {meth : Method} {c : Code} {H : Heap} {locs : List Loc} {cells slots : Nat} {Q : State → Prop} {pc mc ms : Nat} {ls : Array Slot} {st0 st : List Value} {a : Array Value} {P' : Option Value → AH → Prop}
    (hr : va_Run p l e R s m args below meth c H locs cells slots mc ms (F0 m pc ls st0) (st.map (sg_tr G)) (sg_Q G P' a) (sg_A G)) (hS : va_S (sg_A G) s.heap H locs)
    (kk : ∀ (r : Option Value) (h' : AH) (H1 : Heap) (locs1 : List Loc), P' r h' → sg_I G h' H1 → va_S (sg_A G) s.heap H1 locs1 → W p l e R s m args below meth c H1 locs1 (cells + mc) (slots + ms) Q (F0 m (pc + 3) ls ((r.toList ++ st).map (sg_tr G)))) : W p l e R s m args below meth c H locs cells slots Q (F0 m pc ls st0) := by
  intro T hT X
  obtain ⟨v, st₀, t, T', L, h0, X', hL, e1, e2, ⟨⟨r, h', hv, hI, hp⟩, hz, hk⟩, stp⟩ := hr T hT X
  have hv' : v = r.map (sg_tr G) := by injection hv
  subst hv'
  rw [h0] at hz hk
  have e3 : (r.toList ++ st).map (sg_tr G) = (r.map (sg_tr G)).toList ++ st.map (sg_tr G) := by cases r <;> simp
  have kk' := kk r h' T'.heap (locs ++ L) hp (by rw [e1]; exact hI) ⟨Nat.le_trans hS.1 (by rw [e1]; exact hz), fun q g1 g2 => by rw [e1, hk q (Nat.lt_of_lt_of_le g1 hS.1) g2]; exact hS.2.1 q g1 g2, fun q hq => by
      rcases List.mem_append.mp hq with g | g
      · exact hS.2.2 q g
      · exact hL q g⟩
  rw [e3] at kk'
  obtain ⟨t2, a1, b1⟩ := kk' T' rfl X'
  exact ⟨t2, stp t2 a1, b1⟩
def pn_ok (y : MI) (n : Nat) : Prop := (parseMethodDescriptor y.1.desc).map (fun d => d.parameters.length) = some n
section ROWS4
variable {G : SG} {y : MI} {d bc bs pc : Nat} {L st : List Value} {h : AH} {P : Option Value → AH → Prop}
/-- a static method -/
theorem sw_callS {ix n bc' bs' : Nat} {y' : MI} (as : List Value) {L0 : List Value} {st0 : List Value} {P' : Option Value → AH → Prop} (hd : decode y.2.1 pc = .ok (.invokestatic ix, 3)) (hy : mi_ok y') (hw : Cond.methodLink y.1.cls ix y'.1 ∈ wtab) (hs : Cond.static y'.1 ∈ wtab) (hp : pn_ok y' n) (hn : as.length = n) (hle : as.length ≤ y'.2.2.1) (has : ∀ v ∈ as, v.category = 1) (hst : st0 = as.reverse ++ st) (hrm : (st.map fun v => v.category).sum ≤ 8)
    (hL0 : L0 = as ++ List.replicate (y'.2.2.1 - as.length) (.retAddr 0)) (hM : SW G y' d bc' bs' 0 L0 [] h P') (kk : ∀ r h', P' r h' → SW G y (d + 1) bc bs (pc + 3) L (r.toList ++ st) h' P) : SW G y (d + 1) (bc + bc') (bs + bs') pc L st0 h P := by
  intro p l e R s m args below meth c H locs ls cells slots mc ms C h1 h2 h3 h4 hI hS hL
  subst hst
  have hlo := C.lo
  have hfr := C.fr
  have hml := hy.2.2.2.2
  have cw : CallB R s args y.1.cls ix y'.1 y'.2.1 y'.2.2.1 y'.2.2.2 (Cond.code y'.1 y'.2.1 y'.2.2.1 y'.2.2.2 :: wtab) ({ frames := d, cells := bc', slots := bs', locals := 37 * d } : Room) bc' bs' n ∧ (Cond.static y'.1).before args s = true :=
    ⟨callB_of n C.ts (mi_good hy) rfl rfl rfl (C.ts _ hy.2.2.1) (C.ts _ hw) ⟨hy.2.2.2.1.1, hy.2.2.2.1.2, hp⟩ ⟨hfr, by show 8 + (y'.2.2.1 + 11) + 37 * d ≤ _; omega⟩, C.ts _ hs⟩
  refine sw_fin (st := st) (va_runS (As := as.map (sg_tr G)) (rest := st.map (sg_tr G)) ⟨C.x, C.b, C.ml, C.own, C.ts⟩ (sw_met C.nt hy has hle hL0 hM) cw ⟨sw_blind, fun U hU hW => ⟨rfl, sw_preE C.E hS hU hW, by rw [hU]; exact hI⟩⟩ rfl (by rw [List.length_map]; exact hn) hL.1 (by rw [List.map_append, List.map_reverse]) (lv_room (by rw [List.map_map]; rw [show ((fun v : Value => v.category) ∘ sg_tr G) = (fun v => v.category) from funext fun v => sg_catT C.E.fc v]; exact hrm)) hd ⟨by omega, by omega⟩) hS (fun r h' H1 locs1 hp' hI1 hS1 => ?_)
  exact kk r h' hp' p l e R s m args below meth c H1 locs1 ls _ _ mc ms C (by omega) (by omega) h3 h4 hI1 hS1 hL
/-- a static method of a nest mate -/
theorem sw_callSN {ix n bc' bs' : Nat} {y' : MI} (as : List Value) {L0 : List Value} {st0 : List Value} {P' : Option Value → AH → Prop} (hd : decode y.2.1 pc = .ok (.invokestatic ix, 3)) (hy : mi_ok y') (hw : (y.1.cls, ix, y'.1) ∈ ro_nm) (hs : Cond.static y'.1 ∈ wtab) (hp : pn_ok y' n) (hn : as.length = n) (hle : as.length ≤ y'.2.2.1) (has : ∀ v ∈ as, v.category = 1) (hst : st0 = as.reverse ++ st) (hrm : (st.map fun v => v.category).sum ≤ 8)
    (hL0 : L0 = as ++ List.replicate (y'.2.2.1 - as.length) (.retAddr 0)) (hM : SW G y' d bc' bs' 0 L0 [] h P') (kk : ∀ r h', P' r h' → SW G y (d + 1) bc bs (pc + 3) L (r.toList ++ st) h' P) : SW G y (d + 1) (bc + bc') (bs + bs') pc L st0 h P := by
  intro p l e R s m args below meth c H locs ls cells slots mc ms C h1 h2 h3 h4 hI hS hL
  subst hst
  have hlo := C.lo
  have hfr := C.fr
  have hml := hy.2.2.2.2
  have cw : va_CN R s args y.1.cls ix y'.1 "FlowGates" y'.2.1 y'.2.2.1 y'.2.2.2 (Cond.code y'.1 y'.2.1 y'.2.2.1 y'.2.2.2 :: wtab) ({ frames := d, cells := bc', slots := bs', locals := 37 * d } : Room) bc' bs' n ∧ (Cond.static y'.1).before args s = true ∧ True :=
    ⟨va_cnB n C.ts (mi_good hy) rfl rfl rfl (C.E.nm _ hw) (C.ts _ hy.2.2.1) ⟨hy.2.2.2.1.1, hy.2.2.2.1.2, hp⟩ ⟨hfr, by show 8 + (y'.2.2.1 + 11) + 37 * d ≤ _; omega⟩, C.ts _ hs, trivial⟩
  refine sw_fin (st := st) (va_runSN (As := as.map (sg_tr G)) (rest := st.map (sg_tr G)) ⟨C.x, C.b, C.ml, C.own, C.ts⟩ (sw_met C.nt hy has hle hL0 hM) cw ⟨sw_blind, fun U hU hW => ⟨rfl, sw_preE C.E hS hU hW, by rw [hU]; exact hI⟩⟩ rfl (by rw [List.length_map]; exact hn) hL.1 (by rw [List.map_append, List.map_reverse]) (lv_room (by rw [List.map_map]; rw [show ((fun v : Value => v.category) ∘ sg_tr G) = (fun v => v.category) from funext fun v => sg_catT C.E.fc v]; exact hrm)) hd ⟨by omega, by omega⟩) hS (fun r h' H1 locs1 hp' hI1 hS1 => ?_)
  exact kk r h' hp' p l e R s m args below meth c H1 locs1 ls _ _ mc ms C (by omega) (by omega) h3 h4 hI1 hS1 hL
/-- the receiver: an object of ours, or an old one -/
def rc_ok (h : AH) (C0 : String) (b : Nat) : Prop := (∃ (ci : Nat) (fs : List Value) (T : u_T) (N : Nat), h[b]? = some (.inr (ci, fs)) ∧ vwCl[ci]? = some (C0, T, N)) ∨ (b, C0) ∈ ro_cl
theorem rc_of {h : AH} {ci b : Nat} {fs : List Value} {r : vw_C} (hk : h[b]? = some (.inr (ci, fs))) (hc : vwCl[ci]? = some r) : rc_ok h r.1 b := Or.inl ⟨ci, fs, r.2.1, r.2.2, hk, hc⟩
theorem rc_cell {G : SG} {s : State} {H : Heap} {locs : List Loc} {h : AH} {C0 : String} {b : Nat} (hE : sg_E G s) (hI : sg_I G h H) (hS : va_S (sg_A G) s.heap H locs) (hr : rc_ok h C0 b) : ∃ cell : Cell, H[sg_ad G b]? = some cell ∧ cell.vm.isStatics = false ∧ s.vm.findClass C0 = some cell.cls := by
  rcases hr with ⟨ci, fs, T, N, hk, hc⟩ | hq
  · exact va_recv hE.K hI.1 hc (hI.at hk)
  · obtain ⟨cell, g1, g2, g3, -⟩ := (hE.cl _ hq).kept hS.2.1
    exact ⟨cell, g1, g2, g3⟩
/-- a method of an object -/
theorem sw_callV {ix n b bc' bs' : Nat} {y' : MI} (as : List Value) {L0 : List Value} {st0 : List Value} {P' : Option Value → AH → Prop} (hd : decode y.2.1 pc = .ok (.invokevirtual ix, 3)) (hy : mi_ok y') (hw : Cond.methodLink y.1.cls ix y'.1 ∈ wtab) (hi : Cond.instanceMethod y'.1 ∈ wtab) (hse : Cond.selects y'.1.cls y'.1 y'.1 ∈ lw_tbl) (hsg : goodWord (Cond.selects y'.1.cls y'.1 y'.1) = true) (hp : pn_ok y' n) (hn : as.length = n) (hle : as.length + 1 ≤ y'.2.2.1) (has : ∀ v ∈ as, v.category = 1) (hst : st0 = as.reverse ++ .ref b :: st) (hrm : (st.map fun v => v.category).sum ≤ 8) (hr : rc_ok h y'.1.cls b)
    (hL0 : L0 = (.ref b :: as) ++ List.replicate (y'.2.2.1 - (as.length + 1)) (.retAddr 0)) (hM : SW G y' d bc' bs' 0 L0 [] h P') (kk : ∀ r h', P' r h' → SW G y (d + 1) bc bs (pc + 3) L (r.toList ++ st) h' P) : SW G y (d + 1) (bc + bc') (bs + bs') pc L st0 h P := by
  intro p l e R s m args below meth c H locs ls cells slots mc ms C h1 h2 h3 h4 hI hS hL
  subst hst
  have hlo := C.lo
  have hfr := C.fr
  have hml := hy.2.2.2.2
  have cw : CallW R s args y.1.cls y'.1.cls ix y'.1 y'.2.1 y'.2.2.1 y'.2.2.2 (Cond.code y'.1 y'.2.1 y'.2.2.1 y'.2.2.2 :: wtab) ({ frames := d, cells := bc', slots := bs', locals := 37 * d } : Room) bc' bs' n :=
    ⟨callB_of n C.ts (mi_good hy) rfl rfl rfl (C.ts _ hy.2.2.1) (C.ts _ hw) ⟨hy.2.2.2.1.1, hy.2.2.2.1.2, hp⟩ ⟨hfr, by show 8 + (y'.2.2.1 + 11) + 37 * d ≤ _; omega⟩, C.ts _ hi, C.ts _ (List.mem_filter.mpr ⟨hse, hsg⟩)⟩
  have has' : ∀ v ∈ (.ref b :: as : List Value), v.category = 1 := fun v hv => by
    rcases List.mem_cons.mp hv with rfl | hv
    · rfl
    · exact has v hv
  refine sw_fin (st := st) (va_runV (b := sg_ad G b) (As := as.map (sg_tr G)) (rest := st.map (sg_tr G)) ⟨C.x, C.b, C.ml, C.own, C.ts⟩ (sw_met C.nt hy has' hle hL0 hM) cw ⟨sw_blind, rc_cell C.E hI hS hr, fun U hU hW => ⟨rfl, sw_preE C.E hS hU hW, by rw [hU]; exact hI⟩⟩ rfl (by rw [List.length_map]; exact hn) hL.1 (by rw [List.map_append, List.map_reverse]; rfl) (lv_room (by rw [List.map_map]; rw [show ((fun v : Value => v.category) ∘ sg_tr G) = (fun v => v.category) from funext fun v => sg_catT C.E.fc v]; exact hrm)) hd ⟨by omega, by omega⟩) hS (fun r h' H1 locs1 hp' hI1 hS1 => ?_)
  exact kk r h' hp' p l e R s m args below meth c H1 locs1 ls _ _ mc ms C (by omega) (by omega) h3 h4 hI1 hS1 hL
/-- a constructor -/
theorem sw_callI {ix n b bc' bs' : Nat} {y' : MI} (as : List Value) {L0 : List Value} {st0 : List Value} {P' : Option Value → AH → Prop} (hd : decode y.2.1 pc = .ok (.invokespecial ix, 3)) (hy : mi_ok y') (hw : Cond.methodLink y.1.cls ix y'.1 ∈ wtab) (hi : Cond.instanceMethod y'.1 ∈ wtab) (hin : y'.1.name = "<init>") (hrt : y'.2.2.2 = none) (hp : pn_ok y' n) (hn : as.length = n) (hle : as.length + 1 ≤ y'.2.2.1) (has : ∀ v ∈ as, v.category = 1) (hst : st0 = as.reverse ++ .ref b :: st) (hrm : (st.map fun v => v.category).sum ≤ 8)
    (hL0 : L0 = (.ref b :: as) ++ List.replicate (y'.2.2.1 - (as.length + 1)) (.retAddr 0)) (hM : SW G y' d bc' bs' 0 L0 [] h P') (kk : ∀ r h', P' r h' → SW G y (d + 1) bc bs (pc + 3) L (r.toList ++ st) h' P) : SW G y (d + 1) (bc + bc') (bs + bs') pc L st0 h P := by
  intro p l e R s m args below meth c H locs ls cells slots mc ms C h1 h2 h3 h4 hI hS hL
  subst hst
  have hlo := C.lo
  have hfr := C.fr
  have hml := hy.2.2.2.2
  have hM1 := sw_met (as := .ref b :: as) C.nt hy (fun v hv => by
    rcases List.mem_cons.mp hv with rfl | hv
    · rfl
    · exact has v hv) hle hL0 hM
  have hg := mi_good hy
  rw [hrt] at hM1 hg
  have cw : CallB R s args y.1.cls ix y'.1 y'.2.1 y'.2.2.1 none (Cond.code y'.1 y'.2.1 y'.2.2.1 none :: wtab) ({ frames := d, cells := bc', slots := bs', locals := 37 * d } : Room) bc' bs' n ∧ y'.1.name = "<init>" ∧ (Cond.instanceMethod y'.1).before args s = true :=
    ⟨callB_of n C.ts hg rfl rfl rfl (C.ts _ hy.2.2.1) (C.ts _ hw) ⟨hy.2.2.2.1.1, hy.2.2.2.1.2, hp⟩ ⟨hfr, by show 8 + (y'.2.2.1 + 11) + 37 * d ≤ _; omega⟩, hin, C.ts _ hi⟩
  refine sw_fin (st := st) (va_runI (b := sg_ad G b) (As := as.map (sg_tr G)) (rest := st.map (sg_tr G)) ⟨C.x, C.b, C.ml, C.own, C.ts⟩ hM1 cw ⟨sw_blind, fun U hU hW => ⟨rfl, sw_preE C.E hS hU hW, by rw [hU]; exact hI⟩⟩ rfl (by rw [List.length_map]; exact hn) hL.1 (by rw [List.map_append, List.map_reverse]; rfl) (lv_room (by rw [List.map_map]; rw [show ((fun v : Value => v.category) ∘ sg_tr G) = (fun v => v.category) from funext fun v => sg_catT C.E.fc v]; exact hrm)) hd ⟨by omega, by omega⟩) hS (fun r h' H1 locs1 hp' hI1 hS1 => ?_)
  exact kk r h' hp' p l e R s m args below meth c H1 locs1 ls _ _ mc ms C (by omega) (by omega) h3 h4 hI1 hS1 hL
theorem sw_callIN {ix n b bc' bs' : Nat} {y' : MI} (as : List Value) {L0 : List Value} {st0 : List Value} {P' : Option Value → AH → Prop} (hd : decode y.2.1 pc = .ok (.invokespecial ix, 3)) (hy : mi_ok y') (hw : (y.1.cls, ix, y'.1) ∈ ro_nm) (hi : Cond.instanceMethod y'.1 ∈ wtab) (hin : y'.1.name = "<init>") (hrt : y'.2.2.2 = none) (hp : pn_ok y' n) (hn : as.length = n) (hle : as.length + 1 ≤ y'.2.2.1) (has : ∀ v ∈ as, v.category = 1) (hst : st0 = as.reverse ++ .ref b :: st) (hrm : (st.map fun v => v.category).sum ≤ 8)
    (hL0 : L0 = (.ref b :: as) ++ List.replicate (y'.2.2.1 - (as.length + 1)) (.retAddr 0)) (hM : SW G y' d bc' bs' 0 L0 [] h P') (kk : ∀ r h', P' r h' → SW G y (d + 1) bc bs (pc + 3) L (r.toList ++ st) h' P) : SW G y (d + 1) (bc + bc') (bs + bs') pc L st0 h P := by
  intro p l e R s m args below meth c H locs ls cells slots mc ms C h1 h2 h3 h4 hI hS hL
  subst hst
  have hlo := C.lo
  have hfr := C.fr
  have hml := hy.2.2.2.2
  have hM1 := sw_met (as := .ref b :: as) C.nt hy (fun v hv => by
    rcases List.mem_cons.mp hv with rfl | hv
    · rfl
    · exact has v hv) hle hL0 hM
  have hg := mi_good hy
  rw [hrt] at hM1 hg
  have cw : va_CN R s args y.1.cls ix y'.1 "FlowGates" y'.2.1 y'.2.2.1 none (Cond.code y'.1 y'.2.1 y'.2.2.1 none :: wtab) ({ frames := d, cells := bc', slots := bs', locals := 37 * d } : Room) bc' bs' n ∧ y'.1.name = "<init>" ∧ (Cond.instanceMethod y'.1).before args s = true :=
    ⟨va_cnB n C.ts hg rfl rfl rfl (C.E.nm _ hw) (C.ts _ hy.2.2.1) ⟨hy.2.2.2.1.1, hy.2.2.2.1.2, hp⟩ ⟨hfr, by show 8 + (y'.2.2.1 + 11) + 37 * d ≤ _; omega⟩, hin, C.ts _ hi⟩
  refine sw_fin (st := st) (va_runIN (b := sg_ad G b) (As := as.map (sg_tr G)) (rest := st.map (sg_tr G)) ⟨C.x, C.b, C.ml, C.own, C.ts⟩ hM1 cw ⟨sw_blind, fun U hU hW => ⟨rfl, sw_preE C.E hS hU hW, by rw [hU]; exact hI⟩⟩ rfl (by rw [List.length_map]; exact hn) hL.1 (by rw [List.map_append, List.map_reverse]; rfl) (lv_room (by rw [List.map_map]; rw [show ((fun v : Value => v.category) ∘ sg_tr G) = (fun v => v.category) from funext fun v => sg_catT C.E.fc v]; exact hrm)) hd ⟨by omega, by omega⟩) hS (fun r h' H1 locs1 hp' hI1 hS1 => ?_)
  exact kk r h' hp' p l e R s m args below meth c H1 locs1 ls _ _ mc ms C (by omega) (by omega) h3 h4 hI1 hS1 hL
end ROWS4
end
section
theorem zz_probe : True := trivial
end
