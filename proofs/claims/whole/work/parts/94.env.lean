theorem fo_1000 {b : Nat} {s : State} (hn : GV b s) : va_OF "java/lang/Enum" "ordinal" "I" (.int 0) (rF b s 1000) (AS s) s s.heap := vk_OFof (ev_1000 hn) (eqI (v := 0) (nwd hn 5 (by decide +kernel))) hAS
theorem fw_1000 {b : Nat} {s : State} (hn : GV b s) : va_OF "FlowGates$Verb" "word" "Ljava/lang/String;" (.ref (rF b s 1016)) (rF b s 1000) (AS s) s s.heap := vk_OFof (ev_1000 hn) (va_eqv (nwd hn 6 (by decide +kernel)) (ev_1016 hn)) hAS
theorem fs_1000 {b : Nat} {s : State} (hn : GV b s) : va_OF "FlowGates$Verb" "sorts" "Ljava/lang/String;" (.ref (rF b s 1017)) (rF b s 1000) (AS s) s s.heap := vk_OFof (ev_1000 hn) (va_eqv (nwd hn 7 (by decide +kernel)) (ev_1017 hn)) hAS
theorem fo_1001 {b : Nat} {s : State} (hn : GV b s) : va_OF "java/lang/Enum" "ordinal" "I" (.int 1) (rF b s 1001) (AS s) s s.heap := vk_OFof (ev_1001 hn) (eqI (v := 1) (nwd hn 27 (by decide +kernel))) hAS
theorem fw_1001 {b : Nat} {s : State} (hn : GV b s) : va_OF "FlowGates$Verb" "word" "Ljava/lang/String;" (.ref (rF b s 1018)) (rF b s 1001) (AS s) s s.heap := vk_OFof (ev_1001 hn) (va_eqv (nwd hn 28 (by decide +kernel)) (ev_1018 hn)) hAS
theorem fs_1001 {b : Nat} {s : State} (hn : GV b s) : va_OF "FlowGates$Verb" "sorts" "Ljava/lang/String;" (.ref (rF b s 1019)) (rF b s 1001) (AS s) s s.heap := vk_OFof (ev_1001 hn) (va_eqv (nwd hn 29 (by decide +kernel)) (ev_1019 hn)) hAS
theorem fo_1002 {b : Nat} {s : State} (hn : GV b s) : va_OF "java/lang/Enum" "ordinal" "I" (.int 2) (rF b s 1002) (AS s) s s.heap := vk_OFof (ev_1002 hn) (eqI (v := 2) (nwd hn 72 (by decide +kernel))) hAS
theorem fw_1002 {b : Nat} {s : State} (hn : GV b s) : va_OF "FlowGates$Verb" "word" "Ljava/lang/String;" (.ref (rF b s 1020)) (rF b s 1002) (AS s) s s.heap := vk_OFof (ev_1002 hn) (va_eqv (nwd hn 73 (by decide +kernel)) (ev_1020 hn)) hAS
theorem fs_1002 {b : Nat} {s : State} (hn : GV b s) : va_OF "FlowGates$Verb" "sorts" "Ljava/lang/String;" (.ref (rF b s 1021)) (rF b s 1002) (AS s) s s.heap := vk_OFof (ev_1002 hn) (va_eqv (nwd hn 74 (by decide +kernel)) (ev_1021 hn)) hAS
theorem fo_1003 {b : Nat} {s : State} (hn : GV b s) : va_OF "java/lang/Enum" "ordinal" "I" (.int 3) (rF b s 1003) (AS s) s s.heap := vk_OFof (ev_1003 hn) (eqI (v := 3) (nwd hn 78 (by decide +kernel))) hAS
theorem fw_1003 {b : Nat} {s : State} (hn : GV b s) : va_OF "FlowGates$Verb" "word" "Ljava/lang/String;" (.ref (rF b s 1022)) (rF b s 1003) (AS s) s s.heap := vk_OFof (ev_1003 hn) (va_eqv (nwd hn 79 (by decide +kernel)) (ev_1022 hn)) hAS
theorem fs_1003 {b : Nat} {s : State} (hn : GV b s) : va_OF "FlowGates$Verb" "sorts" "Ljava/lang/String;" (.ref (rF b s 1023)) (rF b s 1003) (AS s) s s.heap := vk_OFof (ev_1003 hn) (va_eqv (nwd hn 80 (by decide +kernel)) (ev_1023 hn)) hAS
theorem fo_1004 {b : Nat} {s : State} (hn : GV b s) : va_OF "java/lang/Enum" "ordinal" "I" (.int 4) (rF b s 1004) (AS s) s s.heap := vk_OFof (ev_1004 hn) (eqI (v := 4) (nwd hn 85 (by decide +kernel))) hAS
theorem fw_1004 {b : Nat} {s : State} (hn : GV b s) : va_OF "FlowGates$Verb" "word" "Ljava/lang/String;" (.ref (rF b s 1024)) (rF b s 1004) (AS s) s s.heap := vk_OFof (ev_1004 hn) (va_eqv (nwd hn 86 (by decide +kernel)) (ev_1024 hn)) hAS
theorem fs_1004 {b : Nat} {s : State} (hn : GV b s) : va_OF "FlowGates$Verb" "sorts" "Ljava/lang/String;" (.ref (rF b s 1025)) (rF b s 1004) (AS s) s s.heap := vk_OFof (ev_1004 hn) (va_eqv (nwd hn 87 (by decide +kernel)) (ev_1025 hn)) hAS
theorem fo_1005 {b : Nat} {s : State} (hn : GV b s) : va_OF "java/lang/Enum" "ordinal" "I" (.int 5) (rF b s 1005) (AS s) s s.heap := vk_OFof (ev_1005 hn) (eqI (v := 5) (nwd hn 93 (by decide +kernel))) hAS
theorem fw_1005 {b : Nat} {s : State} (hn : GV b s) : va_OF "FlowGates$Verb" "word" "Ljava/lang/String;" (.ref (rF b s 1026)) (rF b s 1005) (AS s) s s.heap := vk_OFof (ev_1005 hn) (va_eqv (nwd hn 94 (by decide +kernel)) (ev_1026 hn)) hAS
theorem fs_1005 {b : Nat} {s : State} (hn : GV b s) : va_OF "FlowGates$Verb" "sorts" "Ljava/lang/String;" (.ref (rF b s 1027)) (rF b s 1005) (AS s) s s.heap := vk_OFof (ev_1005 hn) (va_eqv (nwd hn 95 (by decide +kernel)) (ev_1027 hn)) hAS
theorem fo_1006 {b : Nat} {s : State} (hn : GV b s) : va_OF "java/lang/Enum" "ordinal" "I" (.int 6) (rF b s 1006) (AS s) s s.heap := vk_OFof (ev_1006 hn) (eqI (v := 6) (nwd hn 102 (by decide +kernel))) hAS
theorem fw_1006 {b : Nat} {s : State} (hn : GV b s) : va_OF "FlowGates$Verb" "word" "Ljava/lang/String;" (.ref (rF b s 1028)) (rF b s 1006) (AS s) s s.heap := vk_OFof (ev_1006 hn) (va_eqv (nwd hn 103 (by decide +kernel)) (ev_1028 hn)) hAS
theorem fs_1006 {b : Nat} {s : State} (hn : GV b s) : va_OF "FlowGates$Verb" "sorts" "Ljava/lang/String;" (.ref (rF b s 1029)) (rF b s 1006) (AS s) s s.heap := vk_OFof (ev_1006 hn) (va_eqv (nwd hn 104 (by decide +kernel)) (ev_1029 hn)) hAS
theorem fo_1007 {b : Nat} {s : State} (hn : GV b s) : va_OF "java/lang/Enum" "ordinal" "I" (.int 7) (rF b s 1007) (AS s) s s.heap := vk_OFof (ev_1007 hn) (eqI (v := 7) (nwd hn 112 (by decide +kernel))) hAS
theorem fw_1007 {b : Nat} {s : State} (hn : GV b s) : va_OF "FlowGates$Verb" "word" "Ljava/lang/String;" (.ref (rF b s 1030)) (rF b s 1007) (AS s) s s.heap := vk_OFof (ev_1007 hn) (va_eqv (nwd hn 113 (by decide +kernel)) (ev_1030 hn)) hAS
theorem fs_1007 {b : Nat} {s : State} (hn : GV b s) : va_OF "FlowGates$Verb" "sorts" "Ljava/lang/String;" (.ref (rF b s 1031)) (rF b s 1007) (AS s) s s.heap := vk_OFof (ev_1007 hn) (va_eqv (nwd hn 114 (by decide +kernel)) (ev_1031 hn)) hAS
theorem fc_1010 {b : Nat} {s : State} (hn : GV b s) : va_OF "java/lang/String" "coder" "B" (.int 0) (rF b s 1010) (AS s) s s.heap := vk_OFof (ev_1010 hn) (eqI (v := 0) (nwd hn 132 (by decide +kernel))) hAS
theorem fv_1010 {b : Nat} {s : State} (hn : GV b s) : va_OF "java/lang/String" "value" "[B" (.ref (rF b s 1040)) (rF b s 1010) (AS s) s s.heap := vk_OFof (ev_1010 hn) (ar_1040 (D := (fun _ => 0, fun _ _ => 0)) (t := fun _ => 0) (f := .null) (x := (0, 0, fun _ => 0)) hn).1 hAS
theorem sr_1010 {b : Nat} {s : State} (hn : GV b s) (ht : ∀ w ∈ lw_tbl, w.before #[Value.ref b] s = true) : vk_R "FlowGates$Teller" 101 "up" (rF b s 1010) s := vk_R.of (ht _ (List.mem_of_getElem? (i := 411) (by decide +kernel))) (ev_1010 hn)
theorem fc_1011 {b : Nat} {s : State} (hn : GV b s) : va_OF "java/lang/String" "coder" "B" (.int 0) (rF b s 1011) (AS s) s s.heap := vk_OFof (ev_1011 hn) (eqI (v := 0) (nwd hn 138 (by decide +kernel))) hAS
theorem fv_1011 {b : Nat} {s : State} (hn : GV b s) : va_OF "java/lang/String" "value" "[B" (.ref (rF b s 1041)) (rF b s 1011) (AS s) s s.heap := vk_OFof (ev_1011 hn) (ar_1041 (D := (fun _ => 0, fun _ _ => 0)) (t := fun _ => 0) (f := .null) (x := (0, 0, fun _ => 0)) hn).1 hAS
theorem sr_1011 {b : Nat} {s : State} (hn : GV b s) (ht : ∀ w ∈ lw_tbl, w.before #[Value.ref b] s = true) : vk_R "FlowGates$Teller" 103 "down" (rF b s 1011) s := vk_R.of (ht _ (List.mem_of_getElem? (i := 412) (by decide +kernel))) (ev_1011 hn)
theorem fc_1012 {b : Nat} {s : State} (hn : GV b s) : va_OF "java/lang/String" "coder" "B" (.int 0) (rF b s 1012) (AS s) s s.heap := vk_OFof (ev_1012 hn) (eqI (v := 0) (nwd hn 147 (by decide +kernel))) hAS
theorem fv_1012 {b : Nat} {s : State} (hn : GV b s) : va_OF "java/lang/String" "value" "[B" (.ref (rF b s 1042)) (rF b s 1012) (AS s) s s.heap := vk_OFof (ev_1012 hn) (ar_1042 (D := (fun _ => 0, fun _ _ => 0)) (t := fun _ => 0) (f := .null) (x := (0, 0, fun _ => 0)) hn).1 hAS
theorem sr_1012 {b : Nat} {s : State} (hn : GV b s) (ht : ∀ w ∈ lw_tbl, w.before #[Value.ref b] s = true) : vk_R "FlowGates$Teller" 105 "drain" (rF b s 1012) s := vk_R.of (ht _ (List.mem_of_getElem? (i := 413) (by decide +kernel))) (ev_1012 hn)
theorem fc_1013 {b : Nat} {s : State} (hn : GV b s) : va_OF "java/lang/String" "coder" "B" (.int 0) (rF b s 1013) (AS s) s s.heap := vk_OFof (ev_1013 hn) (eqI (v := 0) (nwd hn 158 (by decide +kernel))) hAS
theorem fv_1013 {b : Nat} {s : State} (hn : GV b s) : va_OF "java/lang/String" "value" "[B" (.ref (rF b s 1043)) (rF b s 1013) (AS s) s s.heap := vk_OFof (ev_1013 hn) (ar_1043 (D := (fun _ => 0, fun _ _ => 0)) (t := fun _ => 0) (f := .null) (x := (0, 0, fun _ => 0)) hn).1 hAS
theorem sr_1013 {b : Nat} {s : State} (hn : GV b s) (ht : ∀ w ∈ lw_tbl, w.before #[Value.ref b] s = true) : vk_R "FlowGates$Teller" 92 "all" (rF b s 1013) s := vk_R.of (ht _ (List.mem_of_getElem? (i := 414) (by decide +kernel))) (ev_1013 hn)
theorem fc_1014 {b : Nat} {s : State} (hn : GV b s) : va_OF "java/lang/String" "coder" "B" (.int 0) (rF b s 1014) (AS s) s s.heap := vk_OFof (ev_1014 hn) (eqI (v := 0) (nwd hn 168 (by decide +kernel))) hAS
theorem fv_1014 {b : Nat} {s : State} (hn : GV b s) : va_OF "java/lang/String" "value" "[B" (.ref (rF b s 1044)) (rF b s 1014) (AS s) s s.heap := vk_OFof (ev_1014 hn) (ar_1044 (D := (fun _ => 0, fun _ _ => 0)) (t := fun _ => 0) (f := .null) (x := (0, 0, fun _ => 0)) hn).1 hAS
theorem sr_1014 {b : Nat} {s : State} (hn : GV b s) (ht : ∀ w ∈ lw_tbl, w.before #[Value.ref b] s = true) : vk_R "FlowGates" 170 "no such backend" (rF b s 1014) s := vk_R.of (ht _ (List.mem_of_getElem? (i := 784) (by decide +kernel))) (ev_1014 hn)
theorem fc_1015 {b : Nat} {s : State} (hn : GV b s) : va_OF "java/lang/String" "coder" "B" (.int 0) (rF b s 1015) (AS s) s s.heap := vk_OFof (ev_1015 hn) (eqI (v := 0) (nwd hn 191 (by decide +kernel))) hAS
theorem fv_1015 {b : Nat} {s : State} (hn : GV b s) : va_OF "java/lang/String" "value" "[B" (.ref (rF b s 1045)) (rF b s 1015) (AS s) s s.heap := vk_OFof (ev_1015 hn) (ar_1045 (D := (fun _ => 0, fun _ _ => 0)) (t := fun _ => 0) (f := .null) (x := (0, 0, fun _ => 0)) hn).1 hAS
theorem sr_1015 {b : Nat} {s : State} (hn : GV b s) (ht : ∀ w ∈ lw_tbl, w.before #[Value.ref b] s = true) : vk_R "FlowGates" 187 "nothing such of a backend" (rF b s 1015) s := vk_R.of (ht _ (List.mem_of_getElem? (i := 810) (by decide +kernel))) (ev_1015 hn)
theorem fc_1016 {b : Nat} {s : State} (hn : GV b s) : va_OF "java/lang/String" "coder" "B" (.int 0) (rF b s 1016) (AS s) s s.heap := vk_OFof (ev_1016 hn) (eqI (v := 0) (nwd hn 225 (by decide +kernel))) hAS
theorem fv_1016 {b : Nat} {s : State} (hn : GV b s) : va_OF "java/lang/String" "value" "[B" (.ref (rF b s 1046)) (rF b s 1016) (AS s) s s.heap := vk_OFof (ev_1016 hn) (ar_1046 (D := (fun _ => 0, fun _ _ => 0)) (t := fun _ => 0) (f := .null) (x := (0, 0, fun _ => 0)) hn).1 hAS
theorem sr_1016 {b : Nat} {s : State} (hn : GV b s) (ht : ∀ w ∈ lw_tbl, w.before #[Value.ref b] s = true) : vk_R "FlowGates$Verb" 55 "size" (rF b s 1016) s := vk_R.of (ht _ (List.mem_of_getElem? (i := 1252) (by decide +kernel))) (ev_1016 hn)
theorem fc_1017 {b : Nat} {s : State} (hn : GV b s) : va_OF "java/lang/String" "coder" "B" (.int 0) (rF b s 1017) (AS s) s s.heap := vk_OFof (ev_1017 hn) (eqI (v := 0) (nwd hn 239 (by decide +kernel))) hAS
theorem fv_1017 {b : Nat} {s : State} (hn : GV b s) : va_OF "java/lang/String" "value" "[B" (.ref (rF b s 1047)) (rF b s 1017) (AS s) s s.heap := vk_OFof (ev_1017 hn) (ar_1047 (D := (fun _ => 0, fun _ _ => 0)) (t := fun _ => 0) (f := .null) (x := (0, 0, fun _ => 0)) hn).1 hAS
theorem sr_1017 {b : Nat} {s : State} (hn : GV b s) (ht : ∀ w ∈ lw_tbl, w.before #[Value.ref b] s = true) : vk_R "FlowGates$Verb" 57 "S" (rF b s 1017) s := vk_R.of (ht _ (List.mem_of_getElem? (i := 1253) (by decide +kernel))) (ev_1017 hn)
theorem fc_1018 {b : Nat} {s : State} (hn : GV b s) : va_OF "java/lang/String" "coder" "B" (.int 0) (rF b s 1018) (AS s) s s.heap := vk_OFof (ev_1018 hn) (eqI (v := 0) (nwd hn 251 (by decide +kernel))) hAS
theorem fv_1018 {b : Nat} {s : State} (hn : GV b s) : va_OF "java/lang/String" "value" "[B" (.ref (rF b s 1048)) (rF b s 1018) (AS s) s s.heap := vk_OFof (ev_1018 hn) (ar_1048 (D := (fun _ => 0, fun _ _ => 0)) (t := fun _ => 0) (f := .null) (x := (0, 0, fun _ => 0)) hn).1 hAS
theorem sr_1018 {b : Nat} {s : State} (hn : GV b s) (ht : ∀ w ∈ lw_tbl, w.before #[Value.ref b] s = true) : vk_R "FlowGates$Verb" 63 "back" (rF b s 1018) s := vk_R.of (ht _ (List.mem_of_getElem? (i := 1260) (by decide +kernel))) (ev_1018 hn)
theorem fc_1019 {b : Nat} {s : State} (hn : GV b s) : va_OF "java/lang/String" "coder" "B" (.int 0) (rF b s 1019) (AS s) s s.heap := vk_OFof (ev_1019 hn) (eqI (v := 0) (nwd hn 267 (by decide +kernel))) hAS
theorem fv_1019 {b : Nat} {s : State} (hn : GV b s) : va_OF "java/lang/String" "value" "[B" (.ref (rF b s 1049)) (rF b s 1019) (AS s) s s.heap := vk_OFof (ev_1019 hn) (ar_1049 (D := (fun _ => 0, fun _ _ => 0)) (t := fun _ => 0) (f := .null) (x := (0, 0, fun _ => 0)) hn).1 hAS
theorem sr_1019 {b : Nat} {s : State} (hn : GV b s) (ht : ∀ w ∈ lw_tbl, w.before #[Value.ref b] s = true) : vk_R "FlowGates$Verb" 65 "KW" (rF b s 1019) s := vk_R.of (ht _ (List.mem_of_getElem? (i := 1261) (by decide +kernel))) (ev_1019 hn)
theorem fc_1020 {b : Nat} {s : State} (hn : GV b s) : va_OF "java/lang/String" "coder" "B" (.int 0) (rF b s 1020) (AS s) s s.heap := vk_OFof (ev_1020 hn) (eqI (v := 0) (nwd hn 282 (by decide +kernel))) hAS
theorem fv_1020 {b : Nat} {s : State} (hn : GV b s) : va_OF "java/lang/String" "value" "[B" (.ref (rF b s 1050)) (rF b s 1020) (AS s) s s.heap := vk_OFof (ev_1020 hn) (ar_1050 (D := (fun _ => 0, fun _ _ => 0)) (t := fun _ => 0) (f := .null) (x := (0, 0, fun _ => 0)) hn).1 hAS
theorem sr_1020 {b : Nat} {s : State} (hn : GV b s) (ht : ∀ w ∈ lw_tbl, w.before #[Value.ref b] s = true) : vk_R "FlowGates$Verb" 68 "weigh" (rF b s 1020) s := vk_R.of (ht _ (List.mem_of_getElem? (i := 1262) (by decide +kernel))) (ev_1020 hn)
theorem fc_1021 {b : Nat} {s : State} (hn : GV b s) : va_OF "java/lang/String" "coder" "B" (.int 0) (rF b s 1021) (AS s) s s.heap := vk_OFof (ev_1021 hn) (eqI (v := 0) (nwd hn 301 (by decide +kernel))) hAS
theorem fv_1021 {b : Nat} {s : State} (hn : GV b s) : va_OF "java/lang/String" "value" "[B" (.ref (rF b s 1051)) (rF b s 1021) (AS s) s s.heap := vk_OFof (ev_1021 hn) (ar_1051 (D := (fun _ => 0, fun _ _ => 0)) (t := fun _ => 0) (f := .null) (x := (0, 0, fun _ => 0)) hn).1 hAS
theorem sr_1021 {b : Nat} {s : State} (hn : GV b s) (ht : ∀ w ∈ lw_tbl, w.before #[Value.ref b] s = true) : vk_R "FlowGates$Verb" 70 "BW" (rF b s 1021) s := vk_R.of (ht _ (List.mem_of_getElem? (i := 1263) (by decide +kernel))) (ev_1021 hn)
theorem fc_1022 {b : Nat} {s : State} (hn : GV b s) : va_OF "java/lang/String" "coder" "B" (.int 0) (rF b s 1022) (AS s) s s.heap := vk_OFof (ev_1022 hn) (eqI (v := 0) (nwd hn 318 (by decide +kernel))) hAS
theorem fv_1022 {b : Nat} {s : State} (hn : GV b s) : va_OF "java/lang/String" "value" "[B" (.ref (rF b s 1052)) (rF b s 1022) (AS s) s s.heap := vk_OFof (ev_1022 hn) (ar_1052 (D := (fun _ => 0, fun _ _ => 0)) (t := fun _ => 0) (f := .null) (x := (0, 0, fun _ => 0)) hn).1 hAS
theorem sr_1022 {b : Nat} {s : State} (hn : GV b s) (ht : ∀ w ∈ lw_tbl, w.before #[Value.ref b] s = true) : vk_R "FlowGates$Verb" 73 "see" (rF b s 1022) s := vk_R.of (ht _ (List.mem_of_getElem? (i := 1264) (by decide +kernel))) (ev_1022 hn)
theorem fc_1023 {b : Nat} {s : State} (hn : GV b s) : va_OF "java/lang/String" "coder" "B" (.int 0) (rF b s 1023) (AS s) s s.heap := vk_OFof (ev_1023 hn) (eqI (v := 0) (nwd hn 337 (by decide +kernel))) hAS
theorem fv_1023 {b : Nat} {s : State} (hn : GV b s) : va_OF "java/lang/String" "value" "[B" (.ref (rF b s 1053)) (rF b s 1023) (AS s) s s.heap := vk_OFof (ev_1023 hn) (ar_1053 (D := (fun _ => 0, fun _ _ => 0)) (t := fun _ => 0) (f := .null) (x := (0, 0, fun _ => 0)) hn).1 hAS
theorem sr_1023 {b : Nat} {s : State} (hn : GV b s) (ht : ∀ w ∈ lw_tbl, w.before #[Value.ref b] s = true) : vk_R "FlowGates$Verb" 75 "GBH" (rF b s 1023) s := vk_R.of (ht _ (List.mem_of_getElem? (i := 1265) (by decide +kernel))) (ev_1023 hn)
theorem fc_1024 {b : Nat} {s : State} (hn : GV b s) : va_OF "java/lang/String" "coder" "B" (.int 0) (rF b s 1024) (AS s) s s.heap := vk_OFof (ev_1024 hn) (eqI (v := 0) (nwd hn 357 (by decide +kernel))) hAS
theorem fv_1024 {b : Nat} {s : State} (hn : GV b s) : va_OF "java/lang/String" "value" "[B" (.ref (rF b s 1054)) (rF b s 1024) (AS s) s s.heap := vk_OFof (ev_1024 hn) (ar_1054 (D := (fun _ => 0, fun _ _ => 0)) (t := fun _ => 0) (f := .null) (x := (0, 0, fun _ => 0)) hn).1 hAS
theorem sr_1024 {b : Nat} {s : State} (hn : GV b s) (ht : ∀ w ∈ lw_tbl, w.before #[Value.ref b] s = true) : vk_R "FlowGates$Verb" 78 "tick" (rF b s 1024) s := vk_R.of (ht _ (List.mem_of_getElem? (i := 1266) (by decide +kernel))) (ev_1024 hn)
theorem fc_1025 {b : Nat} {s : State} (hn : GV b s) : va_OF "java/lang/String" "coder" "B" (.int 0) (rF b s 1025) (AS s) s s.heap := vk_OFof (ev_1025 hn) (eqI (v := 0) (nwd hn 379 (by decide +kernel))) hAS
theorem fv_1025 {b : Nat} {s : State} (hn : GV b s) : va_OF "java/lang/String" "value" "[B" (.ref (rF b s 1055)) (rF b s 1025) (AS s) s s.heap := vk_OFof (ev_1025 hn) (ar_1055 (D := (fun _ => 0, fun _ _ => 0)) (t := fun _ => 0) (f := .null) (x := (0, 0, fun _ => 0)) hn).1 hAS
theorem sr_1025 {b : Nat} {s : State} (hn : GV b s) (ht : ∀ w ∈ lw_tbl, w.before #[Value.ref b] s = true) : vk_R "FlowGates$Verb" 80 "T" (rF b s 1025) s := vk_R.of (ht _ (List.mem_of_getElem? (i := 1267) (by decide +kernel))) (ev_1025 hn)
theorem fc_1026 {b : Nat} {s : State} (hn : GV b s) : va_OF "java/lang/String" "coder" "B" (.int 0) (rF b s 1026) (AS s) s s.heap := vk_OFof (ev_1026 hn) (eqI (v := 0) (nwd hn 399 (by decide +kernel))) hAS
theorem fv_1026 {b : Nat} {s : State} (hn : GV b s) : va_OF "java/lang/String" "value" "[B" (.ref (rF b s 1056)) (rF b s 1026) (AS s) s s.heap := vk_OFof (ev_1026 hn) (ar_1056 (D := (fun _ => 0, fun _ _ => 0)) (t := fun _ => 0) (f := .null) (x := (0, 0, fun _ => 0)) hn).1 hAS
theorem sr_1026 {b : Nat} {s : State} (hn : GV b s) (ht : ∀ w ∈ lw_tbl, w.before #[Value.ref b] s = true) : vk_R "FlowGates$Verb" 83 "room" (rF b s 1026) s := vk_R.of (ht _ (List.mem_of_getElem? (i := 1268) (by decide +kernel))) (ev_1026 hn)
theorem fc_1027 {b : Nat} {s : State} (hn : GV b s) : va_OF "java/lang/String" "coder" "B" (.int 0) (rF b s 1027) (AS s) s s.heap := vk_OFof (ev_1027 hn) (eqI (v := 0) (nwd hn 423 (by decide +kernel))) hAS
theorem fv_1027 {b : Nat} {s : State} (hn : GV b s) : va_OF "java/lang/String" "value" "[B" (.ref (rF b s 1057)) (rF b s 1027) (AS s) s s.heap := vk_OFof (ev_1027 hn) (ar_1057 (D := (fun _ => 0, fun _ _ => 0)) (t := fun _ => 0) (f := .null) (x := (0, 0, fun _ => 0)) hn).1 hAS
theorem sr_1027 {b : Nat} {s : State} (hn : GV b s) (ht : ∀ w ∈ lw_tbl, w.before #[Value.ref b] s = true) : vk_R "FlowGates$Verb" 85 "R" (rF b s 1027) s := vk_R.of (ht _ (List.mem_of_getElem? (i := 1269) (by decide +kernel))) (ev_1027 hn)
theorem fc_1028 {b : Nat} {s : State} (hn : GV b s) : va_OF "java/lang/String" "coder" "B" (.int 0) (rF b s 1028) (AS s) s s.heap := vk_OFof (ev_1028 hn) (eqI (v := 0) (nwd hn 445 (by decide +kernel))) hAS
theorem fv_1028 {b : Nat} {s : State} (hn : GV b s) : va_OF "java/lang/String" "value" "[B" (.ref (rF b s 1058)) (rF b s 1028) (AS s) s s.heap := vk_OFof (ev_1028 hn) (ar_1058 (D := (fun _ => 0, fun _ _ => 0)) (t := fun _ => 0) (f := .null) (x := (0, 0, fun _ => 0)) hn).1 hAS
theorem sr_1028 {b : Nat} {s : State} (hn : GV b s) (ht : ∀ w ∈ lw_tbl, w.before #[Value.ref b] s = true) : vk_R "FlowGates$Verb" 88 "age" (rF b s 1028) s := vk_R.of (ht _ (List.mem_of_getElem? (i := 1270) (by decide +kernel))) (ev_1028 hn)
theorem fc_1029 {b : Nat} {s : State} (hn : GV b s) : va_OF "java/lang/String" "coder" "B" (.int 0) (rF b s 1029) (AS s) s s.heap := vk_OFof (ev_1029 hn) (eqI (v := 0) (nwd hn 470 (by decide +kernel))) hAS
theorem fv_1029 {b : Nat} {s : State} (hn : GV b s) : va_OF "java/lang/String" "value" "[B" (.ref (rF b s 1059)) (rF b s 1029) (AS s) s s.heap := vk_OFof (ev_1029 hn) (ar_1059 (D := (fun _ => 0, fun _ _ => 0)) (t := fun _ => 0) (f := .null) (x := (0, 0, fun _ => 0)) hn).1 hAS
theorem sr_1029 {b : Nat} {s : State} (hn : GV b s) (ht : ∀ w ∈ lw_tbl, w.before #[Value.ref b] s = true) : vk_R "FlowGates$Verb" 90 "A" (rF b s 1029) s := vk_R.of (ht _ (List.mem_of_getElem? (i := 1271) (by decide +kernel))) (ev_1029 hn)
theorem fc_1030 {b : Nat} {s : State} (hn : GV b s) : va_OF "java/lang/String" "coder" "B" (.int 0) (rF b s 1030) (AS s) s s.heap := vk_OFof (ev_1030 hn) (eqI (v := 0) (nwd hn 494 (by decide +kernel))) hAS
theorem fv_1030 {b : Nat} {s : State} (hn : GV b s) : va_OF "java/lang/String" "value" "[B" (.ref (rF b s 1060)) (rF b s 1030) (AS s) s s.heap := vk_OFof (ev_1030 hn) (ar_1060 (D := (fun _ => 0, fun _ _ => 0)) (t := fun _ => 0) (f := .null) (x := (0, 0, fun _ => 0)) hn).1 hAS
theorem sr_1030 {b : Nat} {s : State} (hn : GV b s) (ht : ∀ w ∈ lw_tbl, w.before #[Value.ref b] s = true) : vk_R "FlowGates$Verb" 93 "pack" (rF b s 1030) s := vk_R.of (ht _ (List.mem_of_getElem? (i := 1272) (by decide +kernel))) (ev_1030 hn)
theorem fc_1031 {b : Nat} {s : State} (hn : GV b s) : va_OF "java/lang/String" "coder" "B" (.int 0) (rF b s 1031) (AS s) s s.heap := vk_OFof (ev_1031 hn) (eqI (v := 0) (nwd hn 522 (by decide +kernel))) hAS
theorem fv_1031 {b : Nat} {s : State} (hn : GV b s) : va_OF "java/lang/String" "value" "[B" (.ref (rF b s 1061)) (rF b s 1031) (AS s) s s.heap := vk_OFof (ev_1031 hn) (ar_1061 (D := (fun _ => 0, fun _ _ => 0)) (t := fun _ => 0) (f := .null) (x := (0, 0, fun _ => 0)) hn).1 hAS
theorem sr_1031 {b : Nat} {s : State} (hn : GV b s) (ht : ∀ w ∈ lw_tbl, w.before #[Value.ref b] s = true) : vk_R "FlowGates$Verb" 95 "GF" (rF b s 1031) s := vk_R.of (ht _ (List.mem_of_getElem? (i := 1273) (by decide +kernel))) (ev_1031 hn)
theorem z_0 {b : Nat} {s : State} (hn : GV b s) (ht : ∀ w ∈ lw_tbl, w.before #[Value.ref b] s = true) : va_Z "FlowGates$Verb" "SIZE" "LFlowGates$Verb;" (.ref (rF b s 1000)) (AS s) s s.heap := va_Zof (ht _ (List.mem_of_getElem? (i := 244) (by decide +kernel))) (ht _ (List.mem_of_getElem? (i := 75) (by decide +kernel))) (ev_1000 hn) hAS
theorem z_1 {b : Nat} {s : State} (hn : GV b s) (ht : ∀ w ∈ lw_tbl, w.before #[Value.ref b] s = true) : va_Z "FlowGates$Verb" "BACK" "LFlowGates$Verb;" (.ref (rF b s 1001)) (AS s) s s.heap := va_Zof (ht _ (List.mem_of_getElem? (i := 402) (by decide +kernel))) (ht _ (List.mem_of_getElem? (i := 75) (by decide +kernel))) (ev_1001 hn) hAS
theorem z_2 {b : Nat} {s : State} (hn : GV b s) (ht : ∀ w ∈ lw_tbl, w.before #[Value.ref b] s = true) : va_Z "FlowGates$Teller" "VERBS" "[LFlowGates$Verb;" (.ref (rF b s 1080)) (AS s) s s.heap := va_Zof (ht _ (List.mem_of_getElem? (i := 344) (by decide +kernel))) (ht _ (List.mem_of_getElem? (i := 73) (by decide +kernel))) ((ar_1080 (D := (fun _ => 0, fun _ _ => 0)) (t := fun _ => 0) (f := .null) (x := (0, 0, fun _ => 0)) hn).1) hAS
theorem z_3 {b : Nat} {s : State} (hn : GV b s) (ht : ∀ w ∈ lw_tbl, w.before #[Value.ref b] s = true) : va_Z "FlowGates" "SIZES" "[I" (.ref (rF b s 1081)) (AS s) s s.heap := va_Zof (ht _ (List.mem_of_getElem? (i := 426) (by decide +kernel))) (ht _ (List.mem_of_getElem? (i := 67) (by decide +kernel))) ((ar_1081 (D := (fun _ => 0, fun _ _ => 0)) (t := fun _ => 0) (f := .null) (x := (0, 0, fun _ => 0)) hn).1) hAS
theorem z_4 {b : Nat} {s : State} (hn : GV b s) (ht : ∀ w ∈ lw_tbl, w.before #[Value.ref b] s = true) : va_Z "FlowGates$1" "$SwitchMap$FlowGates$Verb" "[I" (.ref (rF b s 1082)) (AS s) s s.heap := va_Zof (ht _ (List.mem_of_getElem? (i := 450) (by decide +kernel))) (ht _ (List.mem_of_getElem? (i := 82) (by decide +kernel))) ((ar_1082 (D := (fun _ => 0, fun _ _ => 0)) (t := fun _ => 0) (f := .null) (x := (0, 0, fun _ => 0)) hn).1) hAS
theorem z_5 {b : Nat} {s : State} (hn : GV b s) (ht : ∀ w ∈ lw_tbl, w.before #[Value.ref b] s = true) : va_Z "java/lang/String" "COMPACT_STRINGS" "Z" (.int 1) (AS s) s s.heap := va_Zof (ht _ (List.mem_of_getElem? (i := 358) (by decide +kernel))) (ht _ (List.mem_of_getElem? (i := 78) (by decide +kernel))) (eqI (v := 1) (nwd hn 21 (by decide +kernel))) hAS
theorem fm_ev {b : Nat} {s : State} (hn : GV b s) : ∃ v : Value, v.category = 1 ∧ Ev b s (.static "jdk/internal/util/Preconditions" "SIOOBE_FORMATTER" "Ljava/util/function/BiFunction;") v := by
  have h : (Cond.isRef (.static "jdk/internal/util/Preconditions" "SIOOBE_FORMATTER" "Ljava/util/function/BiFunction;")).before #[Value.ref b] s = true := nwd hn 22 (by decide +kernel)
  simp only [Cond.before, Cond.holds, Cond.value] at h
  unfold Ev
  cases hv : (Term.static "jdk/internal/util/Preconditions" "SIOOBE_FORMATTER" "Ljava/util/function/BiFunction;").eval #[Value.ref b] s none [] s with
  | none => rw [hv] at h; simp at h
  | some v =>
    rw [hv] at h
    cases v with
    | ref a => exact ⟨_, rfl, rfl⟩
    | null => exact ⟨_, rfl, rfl⟩
    | _ => simp at h
theorem zq_0 {b : Nat} {s : State} (hn : GV b s) (ht : ∀ w ∈ lw_tbl, w.before #[Value.ref b] s = true) : vx_Zq Bundle.tN "UNASSIGNED_STACK" Bundle.steD (AS s) s s.heap := vx_Zqof (ht _ (List.mem_of_getElem? (i := 772) (by decide +kernel))) (ht _ (List.mem_of_getElem? (i := 84) (by decide +kernel))) (nwd hn 69 (by decide +kernel)) hAS
theorem zq_1 {b : Nat} {s : State} (hn : GV b s) (ht : ∀ w ∈ lw_tbl, w.before #[Value.ref b] s = true) : vx_Zq Bundle.tN "SUPPRESSED_SENTINEL" Bundle.listD (AS s) s s.heap := vx_Zqof (ht _ (List.mem_of_getElem? (i := 774) (by decide +kernel))) (ht _ (List.mem_of_getElem? (i := 84) (by decide +kernel))) (nwd hn 70 (by decide +kernel)) hAS
theorem ne_0_1 {b : Nat} {s : State} (hn : GV b s) : ¬ rF b s 1000 = rF b s 1001 := va_neR (nwd hn 30 (by decide +kernel)) (ev_1000 hn) (ev_1001 hn)
theorem ne_0_2 {b : Nat} {s : State} (hn : GV b s) : ¬ rF b s 1000 = rF b s 1002 := va_neR (nwd hn 75 (by decide +kernel)) (ev_1000 hn) (ev_1002 hn)
theorem ne_0_3 {b : Nat} {s : State} (hn : GV b s) : ¬ rF b s 1000 = rF b s 1003 := va_neR (nwd hn 81 (by decide +kernel)) (ev_1000 hn) (ev_1003 hn)
theorem ne_0_4 {b : Nat} {s : State} (hn : GV b s) : ¬ rF b s 1000 = rF b s 1004 := va_neR (nwd hn 88 (by decide +kernel)) (ev_1000 hn) (ev_1004 hn)
theorem ne_0_5 {b : Nat} {s : State} (hn : GV b s) : ¬ rF b s 1000 = rF b s 1005 := va_neR (nwd hn 96 (by decide +kernel)) (ev_1000 hn) (ev_1005 hn)
theorem ne_0_6 {b : Nat} {s : State} (hn : GV b s) : ¬ rF b s 1000 = rF b s 1006 := va_neR (nwd hn 105 (by decide +kernel)) (ev_1000 hn) (ev_1006 hn)
theorem ne_0_7 {b : Nat} {s : State} (hn : GV b s) : ¬ rF b s 1000 = rF b s 1007 := va_neR (nwd hn 115 (by decide +kernel)) (ev_1000 hn) (ev_1007 hn)
theorem ne_1_2 {b : Nat} {s : State} (hn : GV b s) : ¬ rF b s 1001 = rF b s 1002 := va_neR (nwd hn 76 (by decide +kernel)) (ev_1001 hn) (ev_1002 hn)
theorem ne_1_3 {b : Nat} {s : State} (hn : GV b s) : ¬ rF b s 1001 = rF b s 1003 := va_neR (nwd hn 82 (by decide +kernel)) (ev_1001 hn) (ev_1003 hn)
theorem ne_1_4 {b : Nat} {s : State} (hn : GV b s) : ¬ rF b s 1001 = rF b s 1004 := va_neR (nwd hn 89 (by decide +kernel)) (ev_1001 hn) (ev_1004 hn)
theorem ne_1_5 {b : Nat} {s : State} (hn : GV b s) : ¬ rF b s 1001 = rF b s 1005 := va_neR (nwd hn 97 (by decide +kernel)) (ev_1001 hn) (ev_1005 hn)
theorem ne_1_6 {b : Nat} {s : State} (hn : GV b s) : ¬ rF b s 1001 = rF b s 1006 := va_neR (nwd hn 106 (by decide +kernel)) (ev_1001 hn) (ev_1006 hn)
theorem ne_1_7 {b : Nat} {s : State} (hn : GV b s) : ¬ rF b s 1001 = rF b s 1007 := va_neR (nwd hn 116 (by decide +kernel)) (ev_1001 hn) (ev_1007 hn)
theorem ne_2_3 {b : Nat} {s : State} (hn : GV b s) : ¬ rF b s 1002 = rF b s 1003 := va_neR (nwd hn 83 (by decide +kernel)) (ev_1002 hn) (ev_1003 hn)
theorem ne_2_4 {b : Nat} {s : State} (hn : GV b s) : ¬ rF b s 1002 = rF b s 1004 := va_neR (nwd hn 90 (by decide +kernel)) (ev_1002 hn) (ev_1004 hn)
theorem ne_2_5 {b : Nat} {s : State} (hn : GV b s) : ¬ rF b s 1002 = rF b s 1005 := va_neR (nwd hn 98 (by decide +kernel)) (ev_1002 hn) (ev_1005 hn)
theorem ne_2_6 {b : Nat} {s : State} (hn : GV b s) : ¬ rF b s 1002 = rF b s 1006 := va_neR (nwd hn 107 (by decide +kernel)) (ev_1002 hn) (ev_1006 hn)
theorem ne_2_7 {b : Nat} {s : State} (hn : GV b s) : ¬ rF b s 1002 = rF b s 1007 := va_neR (nwd hn 117 (by decide +kernel)) (ev_1002 hn) (ev_1007 hn)
theorem ne_3_4 {b : Nat} {s : State} (hn : GV b s) : ¬ rF b s 1003 = rF b s 1004 := va_neR (nwd hn 91 (by decide +kernel)) (ev_1003 hn) (ev_1004 hn)
theorem ne_3_5 {b : Nat} {s : State} (hn : GV b s) : ¬ rF b s 1003 = rF b s 1005 := va_neR (nwd hn 99 (by decide +kernel)) (ev_1003 hn) (ev_1005 hn)
theorem ne_3_6 {b : Nat} {s : State} (hn : GV b s) : ¬ rF b s 1003 = rF b s 1006 := va_neR (nwd hn 108 (by decide +kernel)) (ev_1003 hn) (ev_1006 hn)
theorem ne_3_7 {b : Nat} {s : State} (hn : GV b s) : ¬ rF b s 1003 = rF b s 1007 := va_neR (nwd hn 118 (by decide +kernel)) (ev_1003 hn) (ev_1007 hn)
theorem ne_4_5 {b : Nat} {s : State} (hn : GV b s) : ¬ rF b s 1004 = rF b s 1005 := va_neR (nwd hn 100 (by decide +kernel)) (ev_1004 hn) (ev_1005 hn)
theorem ne_4_6 {b : Nat} {s : State} (hn : GV b s) : ¬ rF b s 1004 = rF b s 1006 := va_neR (nwd hn 109 (by decide +kernel)) (ev_1004 hn) (ev_1006 hn)
theorem ne_4_7 {b : Nat} {s : State} (hn : GV b s) : ¬ rF b s 1004 = rF b s 1007 := va_neR (nwd hn 119 (by decide +kernel)) (ev_1004 hn) (ev_1007 hn)
theorem ne_5_6 {b : Nat} {s : State} (hn : GV b s) : ¬ rF b s 1005 = rF b s 1006 := va_neR (nwd hn 110 (by decide +kernel)) (ev_1005 hn) (ev_1006 hn)
theorem ne_5_7 {b : Nat} {s : State} (hn : GV b s) : ¬ rF b s 1005 = rF b s 1007 := va_neR (nwd hn 120 (by decide +kernel)) (ev_1005 hn) (ev_1007 hn)
theorem ne_6_7 {b : Nat} {s : State} (hn : GV b s) : ¬ rF b s 1006 = rF b s 1007 := va_neR (nwd hn 121 (by decide +kernel)) (ev_1006 hn) (ev_1007 hn)
theorem rF_lt {b : Nat} {s : State} (hn : GV b s) : ∀ i j : Nat, i < j → j < 8 → ¬ rF b s (1000 + i) = rF b s (1000 + j) := by
  intro i j hij hj
  match j, hj, hij with
  | 1, _, hij =>
    match i, hij with
    | 0, _ => exact ne_0_1 hn
    | q + 1, hq => exact absurd hq (by omega)
  | 2, _, hij =>
    match i, hij with
    | 0, _ => exact ne_0_2 hn
    | 1, _ => exact ne_1_2 hn
    | q + 2, hq => exact absurd hq (by omega)
  | 3, _, hij =>
    match i, hij with
    | 0, _ => exact ne_0_3 hn
    | 1, _ => exact ne_1_3 hn
    | 2, _ => exact ne_2_3 hn
    | q + 3, hq => exact absurd hq (by omega)
  | 4, _, hij =>
    match i, hij with
    | 0, _ => exact ne_0_4 hn
    | 1, _ => exact ne_1_4 hn
    | 2, _ => exact ne_2_4 hn
    | 3, _ => exact ne_3_4 hn
    | q + 4, hq => exact absurd hq (by omega)
  | 5, _, hij =>
    match i, hij with
    | 0, _ => exact ne_0_5 hn
    | 1, _ => exact ne_1_5 hn
    | 2, _ => exact ne_2_5 hn
    | 3, _ => exact ne_3_5 hn
    | 4, _ => exact ne_4_5 hn
    | q + 5, hq => exact absurd hq (by omega)
  | 6, _, hij =>
    match i, hij with
    | 0, _ => exact ne_0_6 hn
    | 1, _ => exact ne_1_6 hn
    | 2, _ => exact ne_2_6 hn
    | 3, _ => exact ne_3_6 hn
    | 4, _ => exact ne_4_6 hn
    | 5, _ => exact ne_5_6 hn
    | q + 6, hq => exact absurd hq (by omega)
  | 7, _, hij =>
    match i, hij with
    | 0, _ => exact ne_0_7 hn
    | 1, _ => exact ne_1_7 hn
    | 2, _ => exact ne_2_7 hn
    | 3, _ => exact ne_3_7 hn
    | 4, _ => exact ne_4_7 hn
    | 5, _ => exact ne_5_7 hn
    | 6, _ => exact ne_6_7 hn
    | q + 7, hq => exact absurd hq (by omega)
  | 0, _, hij => exact absurd hij (by omega)
  | q + 8, hq, _ => exact absurd hq (by omega)
theorem rF_inj {b : Nat} {s : State} (hn : GV b s) : ∀ i j : Nat, i < 8 → j < 8 → rF b s (1000 + i) = rF b s (1000 + j) → i = j := by
  intro i j hi hj e
  rcases Nat.lt_trichotomy i j with q | q | q
  · exact absurd e (rF_lt hn i j q hj)
  · exact q
  · exact absurd e.symm (rF_lt hn j i q hi)
