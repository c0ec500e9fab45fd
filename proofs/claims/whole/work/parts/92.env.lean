/-! the start: what the Statement says of cells that lie there already -/
abbrev TV (n : String) : Term := .static "FlowGates$Verb" n "LFlowGates$Verb;"
def nwl : List Cond := flatC (Jvm.Cond.and given_1 narrow_1)
abbrev Ev (b : Nat) (s : State) (t : Term) (v : Value) : Prop := t.eval #[Value.ref b] s none [] s = some v
abbrev AS (s : State) : Nat → Prop := fun q => s.heap.size ≤ q
abbrev GV (b : Nat) (s : State) : Prop := (Jvm.Cond.and given_1 narrow_1).before #[Value.ref b] s = true
theorem hAS {s : State} : ∀ a : Nat, a < s.heap.size → ¬ AS s a := fun _ h => Nat.not_le.mpr h
theorem nwd {b : Nat} {s : State} (hn : GV b s) {W : Cond} (i : Nat) (h : nwl[i]? = some W) : W.before #[Value.ref b] s = true := flat_of_before _ hn W (List.mem_of_getElem? h)
def adr (b : Nat) (s : State) (t : Term) : Nat := match t.eval #[Value.ref b] s none [] s with
  | some (.ref a) => a
  | _ => 0
theorem adr_of {b : Nat} {s : State} {t : Term} {a : Nat} (h : Ev b s t (.ref a)) : Ev b s t (.ref (adr b s t)) := by
  unfold Ev at h ⊢
  unfold adr
  rw [h]
theorem adr_ex {b : Nat} {s : State} {t : Term} {nm : String} (h : (Cond.exactly t nm).before #[Value.ref b] s = true) : Ev b s t (.ref (adr b s t)) := by
  obtain ⟨a, c, cell, k, q1, -⟩ := Cond.exactly_spec h
  exact adr_of q1
theorem eqI {b : Nat} {s : State} {t : Term} {v : Int32} (h : (Cond.eq t (.int v)).before #[Value.ref b] s = true) : Ev b s t (.int v) := va_eqv h rfl
def tml : List (Nat × Term) := [(1000, (TV "SIZE")), (1001, (TV "BACK")), (1002, (TV "WEIGH")), (1003, (TV "SEE")), (1004, (TV "TICK")), (1005, (TV "ROOM")), (1006, (TV "AGE")), (1007, (TV "PACK")), (1010, (.string "FlowGates$Teller" 101)), (1011, (.string "FlowGates$Teller" 103)), (1012, (.string "FlowGates$Teller" 105)), (1013, (.string "FlowGates$Teller" 92)), (1014, (.string "FlowGates" 170)), (1015, (.string "FlowGates" 187)), (1016, (.string "FlowGates$Verb" 55)), (1017, (.string "FlowGates$Verb" 57)), (1018, (.string "FlowGates$Verb" 63)), (1019, (.string "FlowGates$Verb" 65)), (1020, (.string "FlowGates$Verb" 68)), (1021, (.string "FlowGates$Verb" 70)), (1022, (.string "FlowGates$Verb" 73)), (1023, (.string "FlowGates$Verb" 75)), (1024, (.string "FlowGates$Verb" 78)), (1025, (.string "FlowGates$Verb" 80)), (1026, (.string "FlowGates$Verb" 83)), (1027, (.string "FlowGates$Verb" 85)), (1028, (.string "FlowGates$Verb" 88)), (1029, (.string "FlowGates$Verb" 90)), (1030, (.string "FlowGates$Verb" 93)), (1031, (.string "FlowGates$Verb" 95)), (1040, (.field (.string "FlowGates$Teller" 101) "java/lang/String" "value" "[B")), (1041, (.field (.string "FlowGates$Teller" 103) "java/lang/String" "value" "[B")), (1042, (.field (.string "FlowGates$Teller" 105) "java/lang/String" "value" "[B")), (1043, (.field (.string "FlowGates$Teller" 92) "java/lang/String" "value" "[B")), (1044, (.field (.string "FlowGates" 170) "java/lang/String" "value" "[B")), (1045, (.field (.string "FlowGates" 187) "java/lang/String" "value" "[B")), (1046, (.field (.string "FlowGates$Verb" 55) "java/lang/String" "value" "[B")), (1047, (.field (.string "FlowGates$Verb" 57) "java/lang/String" "value" "[B")), (1048, (.field (.string "FlowGates$Verb" 63) "java/lang/String" "value" "[B")), (1049, (.field (.string "FlowGates$Verb" 65) "java/lang/String" "value" "[B")), (1050, (.field (.string "FlowGates$Verb" 68) "java/lang/String" "value" "[B")), (1051, (.field (.string "FlowGates$Verb" 70) "java/lang/String" "value" "[B")), (1052, (.field (.string "FlowGates$Verb" 73) "java/lang/String" "value" "[B")), (1053, (.field (.string "FlowGates$Verb" 75) "java/lang/String" "value" "[B")), (1054, (.field (.string "FlowGates$Verb" 78) "java/lang/String" "value" "[B")), (1055, (.field (.string "FlowGates$Verb" 80) "java/lang/String" "value" "[B")), (1056, (.field (.string "FlowGates$Verb" 83) "java/lang/String" "value" "[B")), (1057, (.field (.string "FlowGates$Verb" 85) "java/lang/String" "value" "[B")), (1058, (.field (.string "FlowGates$Verb" 88) "java/lang/String" "value" "[B")), (1059, (.field (.string "FlowGates$Verb" 90) "java/lang/String" "value" "[B")), (1060, (.field (.string "FlowGates$Verb" 93) "java/lang/String" "value" "[B")), (1061, (.field (.string "FlowGates$Verb" 95) "java/lang/String" "value" "[B")), (1080, (.static "FlowGates$Teller" "VERBS" "[LFlowGates$Verb;")), (1081, (.static "FlowGates" "SIZES" "[I")), (1082, (.static "FlowGates$1" "$SwitchMap$FlowGates$Verb" "[I"))]
def tmk (k : Nat) : Term := ((tml.find? (fun q => q.1 == k)).map (fun q => q.2)).getD (.arg 0)
def rF (b : Nat) (s : State) (k : Nat) : Nat := adr b s (tmk k)
theorem rF_1000 {b : Nat} {s : State} : adr b s (TV "SIZE") = rF b s 1000 := by unfold rF; rw [show tmk 1000 = (TV "SIZE") from rfl]
theorem rF_1001 {b : Nat} {s : State} : adr b s (TV "BACK") = rF b s 1001 := by unfold rF; rw [show tmk 1001 = (TV "BACK") from rfl]
theorem rF_1002 {b : Nat} {s : State} : adr b s (TV "WEIGH") = rF b s 1002 := by unfold rF; rw [show tmk 1002 = (TV "WEIGH") from rfl]
theorem rF_1003 {b : Nat} {s : State} : adr b s (TV "SEE") = rF b s 1003 := by unfold rF; rw [show tmk 1003 = (TV "SEE") from rfl]
theorem rF_1004 {b : Nat} {s : State} : adr b s (TV "TICK") = rF b s 1004 := by unfold rF; rw [show tmk 1004 = (TV "TICK") from rfl]
theorem rF_1005 {b : Nat} {s : State} : adr b s (TV "ROOM") = rF b s 1005 := by unfold rF; rw [show tmk 1005 = (TV "ROOM") from rfl]
theorem rF_1006 {b : Nat} {s : State} : adr b s (TV "AGE") = rF b s 1006 := by unfold rF; rw [show tmk 1006 = (TV "AGE") from rfl]
theorem rF_1007 {b : Nat} {s : State} : adr b s (TV "PACK") = rF b s 1007 := by unfold rF; rw [show tmk 1007 = (TV "PACK") from rfl]
theorem rF_1010 {b : Nat} {s : State} : adr b s (.string "FlowGates$Teller" 101) = rF b s 1010 := by unfold rF; rw [show tmk 1010 = (.string "FlowGates$Teller" 101) from rfl]
theorem rF_1011 {b : Nat} {s : State} : adr b s (.string "FlowGates$Teller" 103) = rF b s 1011 := by unfold rF; rw [show tmk 1011 = (.string "FlowGates$Teller" 103) from rfl]
theorem rF_1012 {b : Nat} {s : State} : adr b s (.string "FlowGates$Teller" 105) = rF b s 1012 := by unfold rF; rw [show tmk 1012 = (.string "FlowGates$Teller" 105) from rfl]
theorem rF_1013 {b : Nat} {s : State} : adr b s (.string "FlowGates$Teller" 92) = rF b s 1013 := by unfold rF; rw [show tmk 1013 = (.string "FlowGates$Teller" 92) from rfl]
theorem rF_1014 {b : Nat} {s : State} : adr b s (.string "FlowGates" 170) = rF b s 1014 := by unfold rF; rw [show tmk 1014 = (.string "FlowGates" 170) from rfl]
theorem rF_1015 {b : Nat} {s : State} : adr b s (.string "FlowGates" 187) = rF b s 1015 := by unfold rF; rw [show tmk 1015 = (.string "FlowGates" 187) from rfl]
theorem rF_1016 {b : Nat} {s : State} : adr b s (.string "FlowGates$Verb" 55) = rF b s 1016 := by unfold rF; rw [show tmk 1016 = (.string "FlowGates$Verb" 55) from rfl]
theorem rF_1017 {b : Nat} {s : State} : adr b s (.string "FlowGates$Verb" 57) = rF b s 1017 := by unfold rF; rw [show tmk 1017 = (.string "FlowGates$Verb" 57) from rfl]
theorem rF_1018 {b : Nat} {s : State} : adr b s (.string "FlowGates$Verb" 63) = rF b s 1018 := by unfold rF; rw [show tmk 1018 = (.string "FlowGates$Verb" 63) from rfl]
theorem rF_1019 {b : Nat} {s : State} : adr b s (.string "FlowGates$Verb" 65) = rF b s 1019 := by unfold rF; rw [show tmk 1019 = (.string "FlowGates$Verb" 65) from rfl]
theorem rF_1020 {b : Nat} {s : State} : adr b s (.string "FlowGates$Verb" 68) = rF b s 1020 := by unfold rF; rw [show tmk 1020 = (.string "FlowGates$Verb" 68) from rfl]
theorem rF_1021 {b : Nat} {s : State} : adr b s (.string "FlowGates$Verb" 70) = rF b s 1021 := by unfold rF; rw [show tmk 1021 = (.string "FlowGates$Verb" 70) from rfl]
theorem rF_1022 {b : Nat} {s : State} : adr b s (.string "FlowGates$Verb" 73) = rF b s 1022 := by unfold rF; rw [show tmk 1022 = (.string "FlowGates$Verb" 73) from rfl]
theorem rF_1023 {b : Nat} {s : State} : adr b s (.string "FlowGates$Verb" 75) = rF b s 1023 := by unfold rF; rw [show tmk 1023 = (.string "FlowGates$Verb" 75) from rfl]
theorem rF_1024 {b : Nat} {s : State} : adr b s (.string "FlowGates$Verb" 78) = rF b s 1024 := by unfold rF; rw [show tmk 1024 = (.string "FlowGates$Verb" 78) from rfl]
theorem rF_1025 {b : Nat} {s : State} : adr b s (.string "FlowGates$Verb" 80) = rF b s 1025 := by unfold rF; rw [show tmk 1025 = (.string "FlowGates$Verb" 80) from rfl]
theorem rF_1026 {b : Nat} {s : State} : adr b s (.string "FlowGates$Verb" 83) = rF b s 1026 := by unfold rF; rw [show tmk 1026 = (.string "FlowGates$Verb" 83) from rfl]
theorem rF_1027 {b : Nat} {s : State} : adr b s (.string "FlowGates$Verb" 85) = rF b s 1027 := by unfold rF; rw [show tmk 1027 = (.string "FlowGates$Verb" 85) from rfl]
theorem rF_1028 {b : Nat} {s : State} : adr b s (.string "FlowGates$Verb" 88) = rF b s 1028 := by unfold rF; rw [show tmk 1028 = (.string "FlowGates$Verb" 88) from rfl]
theorem rF_1029 {b : Nat} {s : State} : adr b s (.string "FlowGates$Verb" 90) = rF b s 1029 := by unfold rF; rw [show tmk 1029 = (.string "FlowGates$Verb" 90) from rfl]
theorem rF_1030 {b : Nat} {s : State} : adr b s (.string "FlowGates$Verb" 93) = rF b s 1030 := by unfold rF; rw [show tmk 1030 = (.string "FlowGates$Verb" 93) from rfl]
theorem rF_1031 {b : Nat} {s : State} : adr b s (.string "FlowGates$Verb" 95) = rF b s 1031 := by unfold rF; rw [show tmk 1031 = (.string "FlowGates$Verb" 95) from rfl]
theorem rF_1040 {b : Nat} {s : State} : adr b s (.field (.string "FlowGates$Teller" 101) "java/lang/String" "value" "[B") = rF b s 1040 := by unfold rF; rw [show tmk 1040 = (.field (.string "FlowGates$Teller" 101) "java/lang/String" "value" "[B") from rfl]
theorem rF_1041 {b : Nat} {s : State} : adr b s (.field (.string "FlowGates$Teller" 103) "java/lang/String" "value" "[B") = rF b s 1041 := by unfold rF; rw [show tmk 1041 = (.field (.string "FlowGates$Teller" 103) "java/lang/String" "value" "[B") from rfl]
theorem rF_1042 {b : Nat} {s : State} : adr b s (.field (.string "FlowGates$Teller" 105) "java/lang/String" "value" "[B") = rF b s 1042 := by unfold rF; rw [show tmk 1042 = (.field (.string "FlowGates$Teller" 105) "java/lang/String" "value" "[B") from rfl]
theorem rF_1043 {b : Nat} {s : State} : adr b s (.field (.string "FlowGates$Teller" 92) "java/lang/String" "value" "[B") = rF b s 1043 := by unfold rF; rw [show tmk 1043 = (.field (.string "FlowGates$Teller" 92) "java/lang/String" "value" "[B") from rfl]
theorem rF_1044 {b : Nat} {s : State} : adr b s (.field (.string "FlowGates" 170) "java/lang/String" "value" "[B") = rF b s 1044 := by unfold rF; rw [show tmk 1044 = (.field (.string "FlowGates" 170) "java/lang/String" "value" "[B") from rfl]
theorem rF_1045 {b : Nat} {s : State} : adr b s (.field (.string "FlowGates" 187) "java/lang/String" "value" "[B") = rF b s 1045 := by unfold rF; rw [show tmk 1045 = (.field (.string "FlowGates" 187) "java/lang/String" "value" "[B") from rfl]
theorem rF_1046 {b : Nat} {s : State} : adr b s (.field (.string "FlowGates$Verb" 55) "java/lang/String" "value" "[B") = rF b s 1046 := by unfold rF; rw [show tmk 1046 = (.field (.string "FlowGates$Verb" 55) "java/lang/String" "value" "[B") from rfl]
theorem rF_1047 {b : Nat} {s : State} : adr b s (.field (.string "FlowGates$Verb" 57) "java/lang/String" "value" "[B") = rF b s 1047 := by unfold rF; rw [show tmk 1047 = (.field (.string "FlowGates$Verb" 57) "java/lang/String" "value" "[B") from rfl]
theorem rF_1048 {b : Nat} {s : State} : adr b s (.field (.string "FlowGates$Verb" 63) "java/lang/String" "value" "[B") = rF b s 1048 := by unfold rF; rw [show tmk 1048 = (.field (.string "FlowGates$Verb" 63) "java/lang/String" "value" "[B") from rfl]
theorem rF_1049 {b : Nat} {s : State} : adr b s (.field (.string "FlowGates$Verb" 65) "java/lang/String" "value" "[B") = rF b s 1049 := by unfold rF; rw [show tmk 1049 = (.field (.string "FlowGates$Verb" 65) "java/lang/String" "value" "[B") from rfl]
theorem rF_1050 {b : Nat} {s : State} : adr b s (.field (.string "FlowGates$Verb" 68) "java/lang/String" "value" "[B") = rF b s 1050 := by unfold rF; rw [show tmk 1050 = (.field (.string "FlowGates$Verb" 68) "java/lang/String" "value" "[B") from rfl]
theorem rF_1051 {b : Nat} {s : State} : adr b s (.field (.string "FlowGates$Verb" 70) "java/lang/String" "value" "[B") = rF b s 1051 := by unfold rF; rw [show tmk 1051 = (.field (.string "FlowGates$Verb" 70) "java/lang/String" "value" "[B") from rfl]
theorem rF_1052 {b : Nat} {s : State} : adr b s (.field (.string "FlowGates$Verb" 73) "java/lang/String" "value" "[B") = rF b s 1052 := by unfold rF; rw [show tmk 1052 = (.field (.string "FlowGates$Verb" 73) "java/lang/String" "value" "[B") from rfl]
theorem rF_1053 {b : Nat} {s : State} : adr b s (.field (.string "FlowGates$Verb" 75) "java/lang/String" "value" "[B") = rF b s 1053 := by unfold rF; rw [show tmk 1053 = (.field (.string "FlowGates$Verb" 75) "java/lang/String" "value" "[B") from rfl]
theorem rF_1054 {b : Nat} {s : State} : adr b s (.field (.string "FlowGates$Verb" 78) "java/lang/String" "value" "[B") = rF b s 1054 := by unfold rF; rw [show tmk 1054 = (.field (.string "FlowGates$Verb" 78) "java/lang/String" "value" "[B") from rfl]
theorem rF_1055 {b : Nat} {s : State} : adr b s (.field (.string "FlowGates$Verb" 80) "java/lang/String" "value" "[B") = rF b s 1055 := by unfold rF; rw [show tmk 1055 = (.field (.string "FlowGates$Verb" 80) "java/lang/String" "value" "[B") from rfl]
theorem rF_1056 {b : Nat} {s : State} : adr b s (.field (.string "FlowGates$Verb" 83) "java/lang/String" "value" "[B") = rF b s 1056 := by unfold rF; rw [show tmk 1056 = (.field (.string "FlowGates$Verb" 83) "java/lang/String" "value" "[B") from rfl]
theorem rF_1057 {b : Nat} {s : State} : adr b s (.field (.string "FlowGates$Verb" 85) "java/lang/String" "value" "[B") = rF b s 1057 := by unfold rF; rw [show tmk 1057 = (.field (.string "FlowGates$Verb" 85) "java/lang/String" "value" "[B") from rfl]
theorem rF_1058 {b : Nat} {s : State} : adr b s (.field (.string "FlowGates$Verb" 88) "java/lang/String" "value" "[B") = rF b s 1058 := by unfold rF; rw [show tmk 1058 = (.field (.string "FlowGates$Verb" 88) "java/lang/String" "value" "[B") from rfl]
theorem rF_1059 {b : Nat} {s : State} : adr b s (.field (.string "FlowGates$Verb" 90) "java/lang/String" "value" "[B") = rF b s 1059 := by unfold rF; rw [show tmk 1059 = (.field (.string "FlowGates$Verb" 90) "java/lang/String" "value" "[B") from rfl]
theorem rF_1060 {b : Nat} {s : State} : adr b s (.field (.string "FlowGates$Verb" 93) "java/lang/String" "value" "[B") = rF b s 1060 := by unfold rF; rw [show tmk 1060 = (.field (.string "FlowGates$Verb" 93) "java/lang/String" "value" "[B") from rfl]
theorem rF_1061 {b : Nat} {s : State} : adr b s (.field (.string "FlowGates$Verb" 95) "java/lang/String" "value" "[B") = rF b s 1061 := by unfold rF; rw [show tmk 1061 = (.field (.string "FlowGates$Verb" 95) "java/lang/String" "value" "[B") from rfl]
theorem rF_1080 {b : Nat} {s : State} : adr b s (.static "FlowGates$Teller" "VERBS" "[LFlowGates$Verb;") = rF b s 1080 := by unfold rF; rw [show tmk 1080 = (.static "FlowGates$Teller" "VERBS" "[LFlowGates$Verb;") from rfl]
theorem rF_1081 {b : Nat} {s : State} : adr b s (.static "FlowGates" "SIZES" "[I") = rF b s 1081 := by unfold rF; rw [show tmk 1081 = (.static "FlowGates" "SIZES" "[I") from rfl]
theorem rF_1082 {b : Nat} {s : State} : adr b s (.static "FlowGates$1" "$SwitchMap$FlowGates$Verb" "[I") = rF b s 1082 := by unfold rF; rw [show tmk 1082 = (.static "FlowGates$1" "$SwitchMap$FlowGates$Verb" "[I") from rfl]
theorem rF_1999 {b : Nat} {s : State} : rF b s 1999 = b := by
  unfold rF
  rw [show tmk 1999 = .arg 0 from rfl]
  rfl
theorem ev_1000 {b : Nat} {s : State} (hn : GV b s) : Ev b s (TV "SIZE") (.ref (rF b s 1000)) := by
  rw [← rF_1000]
  exact adr_ex (nm := "FlowGates$Verb") (nwd hn 4 (by decide +kernel))
theorem oc_1000 {b : Nat} {s : State} (hn : GV b s) : va_O "FlowGates$Verb" (rF b s 1000) (AS s) s s.heap := va_Oof (nwd hn 4 (by decide +kernel)) (ev_1000 hn) hAS
theorem ev_1001 {b : Nat} {s : State} (hn : GV b s) : Ev b s (TV "BACK") (.ref (rF b s 1001)) := by
  rw [← rF_1001]
  exact adr_ex (nm := "FlowGates$Verb") (nwd hn 26 (by decide +kernel))
theorem oc_1001 {b : Nat} {s : State} (hn : GV b s) : va_O "FlowGates$Verb" (rF b s 1001) (AS s) s s.heap := va_Oof (nwd hn 26 (by decide +kernel)) (ev_1001 hn) hAS
theorem ev_1002 {b : Nat} {s : State} (hn : GV b s) : Ev b s (TV "WEIGH") (.ref (rF b s 1002)) := by
  rw [← rF_1002]
  exact adr_ex (nm := "FlowGates$Verb") (nwd hn 71 (by decide +kernel))
theorem oc_1002 {b : Nat} {s : State} (hn : GV b s) : va_O "FlowGates$Verb" (rF b s 1002) (AS s) s s.heap := va_Oof (nwd hn 71 (by decide +kernel)) (ev_1002 hn) hAS
theorem ev_1003 {b : Nat} {s : State} (hn : GV b s) : Ev b s (TV "SEE") (.ref (rF b s 1003)) := by
  rw [← rF_1003]
  exact adr_ex (nm := "FlowGates$Verb") (nwd hn 77 (by decide +kernel))
theorem oc_1003 {b : Nat} {s : State} (hn : GV b s) : va_O "FlowGates$Verb" (rF b s 1003) (AS s) s s.heap := va_Oof (nwd hn 77 (by decide +kernel)) (ev_1003 hn) hAS
theorem ev_1004 {b : Nat} {s : State} (hn : GV b s) : Ev b s (TV "TICK") (.ref (rF b s 1004)) := by
  rw [← rF_1004]
  exact adr_ex (nm := "FlowGates$Verb") (nwd hn 84 (by decide +kernel))
theorem oc_1004 {b : Nat} {s : State} (hn : GV b s) : va_O "FlowGates$Verb" (rF b s 1004) (AS s) s s.heap := va_Oof (nwd hn 84 (by decide +kernel)) (ev_1004 hn) hAS
theorem ev_1005 {b : Nat} {s : State} (hn : GV b s) : Ev b s (TV "ROOM") (.ref (rF b s 1005)) := by
  rw [← rF_1005]
  exact adr_ex (nm := "FlowGates$Verb") (nwd hn 92 (by decide +kernel))
theorem oc_1005 {b : Nat} {s : State} (hn : GV b s) : va_O "FlowGates$Verb" (rF b s 1005) (AS s) s s.heap := va_Oof (nwd hn 92 (by decide +kernel)) (ev_1005 hn) hAS
theorem ev_1006 {b : Nat} {s : State} (hn : GV b s) : Ev b s (TV "AGE") (.ref (rF b s 1006)) := by
  rw [← rF_1006]
  exact adr_ex (nm := "FlowGates$Verb") (nwd hn 101 (by decide +kernel))
theorem oc_1006 {b : Nat} {s : State} (hn : GV b s) : va_O "FlowGates$Verb" (rF b s 1006) (AS s) s s.heap := va_Oof (nwd hn 101 (by decide +kernel)) (ev_1006 hn) hAS
theorem ev_1007 {b : Nat} {s : State} (hn : GV b s) : Ev b s (TV "PACK") (.ref (rF b s 1007)) := by
  rw [← rF_1007]
  exact adr_ex (nm := "FlowGates$Verb") (nwd hn 111 (by decide +kernel))
theorem oc_1007 {b : Nat} {s : State} (hn : GV b s) : va_O "FlowGates$Verb" (rF b s 1007) (AS s) s s.heap := va_Oof (nwd hn 111 (by decide +kernel)) (ev_1007 hn) hAS
theorem ev_1010 {b : Nat} {s : State} (hn : GV b s) : Ev b s (.string "FlowGates$Teller" 101) (.ref (rF b s 1010)) := by
  rw [← rF_1010]
  exact adr_ex (nm := "java/lang/String") (nwd hn 131 (by decide +kernel))
theorem oc_1010 {b : Nat} {s : State} (hn : GV b s) : va_O "java/lang/String" (rF b s 1010) (AS s) s s.heap := va_Oof (nwd hn 131 (by decide +kernel)) (ev_1010 hn) hAS
theorem ev_1011 {b : Nat} {s : State} (hn : GV b s) : Ev b s (.string "FlowGates$Teller" 103) (.ref (rF b s 1011)) := by
  rw [← rF_1011]
  exact adr_ex (nm := "java/lang/String") (nwd hn 137 (by decide +kernel))
theorem oc_1011 {b : Nat} {s : State} (hn : GV b s) : va_O "java/lang/String" (rF b s 1011) (AS s) s s.heap := va_Oof (nwd hn 137 (by decide +kernel)) (ev_1011 hn) hAS
theorem ev_1012 {b : Nat} {s : State} (hn : GV b s) : Ev b s (.string "FlowGates$Teller" 105) (.ref (rF b s 1012)) := by
  rw [← rF_1012]
  exact adr_ex (nm := "java/lang/String") (nwd hn 146 (by decide +kernel))
theorem oc_1012 {b : Nat} {s : State} (hn : GV b s) : va_O "java/lang/String" (rF b s 1012) (AS s) s s.heap := va_Oof (nwd hn 146 (by decide +kernel)) (ev_1012 hn) hAS
theorem ev_1013 {b : Nat} {s : State} (hn : GV b s) : Ev b s (.string "FlowGates$Teller" 92) (.ref (rF b s 1013)) := by
  rw [← rF_1013]
  exact adr_ex (nm := "java/lang/String") (nwd hn 157 (by decide +kernel))
theorem oc_1013 {b : Nat} {s : State} (hn : GV b s) : va_O "java/lang/String" (rF b s 1013) (AS s) s s.heap := va_Oof (nwd hn 157 (by decide +kernel)) (ev_1013 hn) hAS
theorem ev_1014 {b : Nat} {s : State} (hn : GV b s) : Ev b s (.string "FlowGates" 170) (.ref (rF b s 1014)) := by
  rw [← rF_1014]
  exact adr_ex (nm := "java/lang/String") (nwd hn 167 (by decide +kernel))
theorem oc_1014 {b : Nat} {s : State} (hn : GV b s) : va_O "java/lang/String" (rF b s 1014) (AS s) s s.heap := va_Oof (nwd hn 167 (by decide +kernel)) (ev_1014 hn) hAS
theorem ev_1015 {b : Nat} {s : State} (hn : GV b s) : Ev b s (.string "FlowGates" 187) (.ref (rF b s 1015)) := by
  rw [← rF_1015]
  exact adr_ex (nm := "java/lang/String") (nwd hn 190 (by decide +kernel))
theorem oc_1015 {b : Nat} {s : State} (hn : GV b s) : va_O "java/lang/String" (rF b s 1015) (AS s) s s.heap := va_Oof (nwd hn 190 (by decide +kernel)) (ev_1015 hn) hAS
theorem ev_1016 {b : Nat} {s : State} (hn : GV b s) : Ev b s (.string "FlowGates$Verb" 55) (.ref (rF b s 1016)) := by
  rw [← rF_1016]
  exact adr_ex (nm := "java/lang/String") (nwd hn 224 (by decide +kernel))
theorem oc_1016 {b : Nat} {s : State} (hn : GV b s) : va_O "java/lang/String" (rF b s 1016) (AS s) s s.heap := va_Oof (nwd hn 224 (by decide +kernel)) (ev_1016 hn) hAS
theorem ev_1017 {b : Nat} {s : State} (hn : GV b s) : Ev b s (.string "FlowGates$Verb" 57) (.ref (rF b s 1017)) := by
  rw [← rF_1017]
  exact adr_ex (nm := "java/lang/String") (nwd hn 238 (by decide +kernel))
theorem oc_1017 {b : Nat} {s : State} (hn : GV b s) : va_O "java/lang/String" (rF b s 1017) (AS s) s s.heap := va_Oof (nwd hn 238 (by decide +kernel)) (ev_1017 hn) hAS
theorem ev_1018 {b : Nat} {s : State} (hn : GV b s) : Ev b s (.string "FlowGates$Verb" 63) (.ref (rF b s 1018)) := by
  rw [← rF_1018]
  exact adr_ex (nm := "java/lang/String") (nwd hn 250 (by decide +kernel))
theorem oc_1018 {b : Nat} {s : State} (hn : GV b s) : va_O "java/lang/String" (rF b s 1018) (AS s) s s.heap := va_Oof (nwd hn 250 (by decide +kernel)) (ev_1018 hn) hAS
theorem ev_1019 {b : Nat} {s : State} (hn : GV b s) : Ev b s (.string "FlowGates$Verb" 65) (.ref (rF b s 1019)) := by
  rw [← rF_1019]
  exact adr_ex (nm := "java/lang/String") (nwd hn 266 (by decide +kernel))
theorem oc_1019 {b : Nat} {s : State} (hn : GV b s) : va_O "java/lang/String" (rF b s 1019) (AS s) s s.heap := va_Oof (nwd hn 266 (by decide +kernel)) (ev_1019 hn) hAS
theorem ev_1020 {b : Nat} {s : State} (hn : GV b s) : Ev b s (.string "FlowGates$Verb" 68) (.ref (rF b s 1020)) := by
  rw [← rF_1020]
  exact adr_ex (nm := "java/lang/String") (nwd hn 281 (by decide +kernel))
theorem oc_1020 {b : Nat} {s : State} (hn : GV b s) : va_O "java/lang/String" (rF b s 1020) (AS s) s s.heap := va_Oof (nwd hn 281 (by decide +kernel)) (ev_1020 hn) hAS
theorem ev_1021 {b : Nat} {s : State} (hn : GV b s) : Ev b s (.string "FlowGates$Verb" 70) (.ref (rF b s 1021)) := by
  rw [← rF_1021]
  exact adr_ex (nm := "java/lang/String") (nwd hn 300 (by decide +kernel))
theorem oc_1021 {b : Nat} {s : State} (hn : GV b s) : va_O "java/lang/String" (rF b s 1021) (AS s) s s.heap := va_Oof (nwd hn 300 (by decide +kernel)) (ev_1021 hn) hAS
theorem ev_1022 {b : Nat} {s : State} (hn : GV b s) : Ev b s (.string "FlowGates$Verb" 73) (.ref (rF b s 1022)) := by
  rw [← rF_1022]
  exact adr_ex (nm := "java/lang/String") (nwd hn 317 (by decide +kernel))
theorem oc_1022 {b : Nat} {s : State} (hn : GV b s) : va_O "java/lang/String" (rF b s 1022) (AS s) s s.heap := va_Oof (nwd hn 317 (by decide +kernel)) (ev_1022 hn) hAS
theorem ev_1023 {b : Nat} {s : State} (hn : GV b s) : Ev b s (.string "FlowGates$Verb" 75) (.ref (rF b s 1023)) := by
  rw [← rF_1023]
  exact adr_ex (nm := "java/lang/String") (nwd hn 336 (by decide +kernel))
theorem oc_1023 {b : Nat} {s : State} (hn : GV b s) : va_O "java/lang/String" (rF b s 1023) (AS s) s s.heap := va_Oof (nwd hn 336 (by decide +kernel)) (ev_1023 hn) hAS
theorem ev_1024 {b : Nat} {s : State} (hn : GV b s) : Ev b s (.string "FlowGates$Verb" 78) (.ref (rF b s 1024)) := by
  rw [← rF_1024]
  exact adr_ex (nm := "java/lang/String") (nwd hn 356 (by decide +kernel))
theorem oc_1024 {b : Nat} {s : State} (hn : GV b s) : va_O "java/lang/String" (rF b s 1024) (AS s) s s.heap := va_Oof (nwd hn 356 (by decide +kernel)) (ev_1024 hn) hAS
theorem ev_1025 {b : Nat} {s : State} (hn : GV b s) : Ev b s (.string "FlowGates$Verb" 80) (.ref (rF b s 1025)) := by
  rw [← rF_1025]
  exact adr_ex (nm := "java/lang/String") (nwd hn 378 (by decide +kernel))
theorem oc_1025 {b : Nat} {s : State} (hn : GV b s) : va_O "java/lang/String" (rF b s 1025) (AS s) s s.heap := va_Oof (nwd hn 378 (by decide +kernel)) (ev_1025 hn) hAS
theorem ev_1026 {b : Nat} {s : State} (hn : GV b s) : Ev b s (.string "FlowGates$Verb" 83) (.ref (rF b s 1026)) := by
  rw [← rF_1026]
  exact adr_ex (nm := "java/lang/String") (nwd hn 398 (by decide +kernel))
theorem oc_1026 {b : Nat} {s : State} (hn : GV b s) : va_O "java/lang/String" (rF b s 1026) (AS s) s s.heap := va_Oof (nwd hn 398 (by decide +kernel)) (ev_1026 hn) hAS
theorem ev_1027 {b : Nat} {s : State} (hn : GV b s) : Ev b s (.string "FlowGates$Verb" 85) (.ref (rF b s 1027)) := by
  rw [← rF_1027]
  exact adr_ex (nm := "java/lang/String") (nwd hn 422 (by decide +kernel))
theorem oc_1027 {b : Nat} {s : State} (hn : GV b s) : va_O "java/lang/String" (rF b s 1027) (AS s) s s.heap := va_Oof (nwd hn 422 (by decide +kernel)) (ev_1027 hn) hAS
theorem ev_1028 {b : Nat} {s : State} (hn : GV b s) : Ev b s (.string "FlowGates$Verb" 88) (.ref (rF b s 1028)) := by
  rw [← rF_1028]
  exact adr_ex (nm := "java/lang/String") (nwd hn 444 (by decide +kernel))
theorem oc_1028 {b : Nat} {s : State} (hn : GV b s) : va_O "java/lang/String" (rF b s 1028) (AS s) s s.heap := va_Oof (nwd hn 444 (by decide +kernel)) (ev_1028 hn) hAS
theorem ev_1029 {b : Nat} {s : State} (hn : GV b s) : Ev b s (.string "FlowGates$Verb" 90) (.ref (rF b s 1029)) := by
  rw [← rF_1029]
  exact adr_ex (nm := "java/lang/String") (nwd hn 469 (by decide +kernel))
theorem oc_1029 {b : Nat} {s : State} (hn : GV b s) : va_O "java/lang/String" (rF b s 1029) (AS s) s s.heap := va_Oof (nwd hn 469 (by decide +kernel)) (ev_1029 hn) hAS
theorem ev_1030 {b : Nat} {s : State} (hn : GV b s) : Ev b s (.string "FlowGates$Verb" 93) (.ref (rF b s 1030)) := by
  rw [← rF_1030]
  exact adr_ex (nm := "java/lang/String") (nwd hn 493 (by decide +kernel))
theorem oc_1030 {b : Nat} {s : State} (hn : GV b s) : va_O "java/lang/String" (rF b s 1030) (AS s) s s.heap := va_Oof (nwd hn 493 (by decide +kernel)) (ev_1030 hn) hAS
theorem ev_1031 {b : Nat} {s : State} (hn : GV b s) : Ev b s (.string "FlowGates$Verb" 95) (.ref (rF b s 1031)) := by
  rw [← rF_1031]
  exact adr_ex (nm := "java/lang/String") (nwd hn 521 (by decide +kernel))
theorem oc_1031 {b : Nat} {s : State} (hn : GV b s) : va_O "java/lang/String" (rF b s 1031) (AS s) s s.heap := va_Oof (nwd hn 521 (by decide +kernel)) (ev_1031 hn) hAS
theorem ar_1080 {b : Nat} {s : State} {D : va_G} {t : Nat → ClassId} {f : Value} {x : Nat × Nat × (Nat → Int32)} (hn : GV b s) : Ev b s (.static "FlowGates$Teller" "VERBS" "[LFlowGates$Verb;") (.ref (rF b s 1080)) ∧ va_T (.object "FlowGates$Verb") (rF b s 1080) 8 (fun j => sg_tr (tG D t s.heap.size (rF b s) f true x) (([.ref 1000, .ref 1001, .ref 1002, .ref 1003, .ref 1004, .ref 1005, .ref 1006, .ref 1007] : List Value).getD j .null)) (AS s) s s.heap := by
  obtain ⟨a, h1, h2⟩ := va_Tof (tm := (.static "FlowGates$Teller" "VERBS" "[LFlowGates$Verb;")) (ty := (.object "FlowGates$Verb")) (N := 8) (f := fun j => sg_tr (tG D t s.heap.size (rF b s) f true x) (([.ref 1000, .ref 1001, .ref 1002, .ref 1003, .ref 1004, .ref 1005, .ref 1006, .ref 1007] : List Value).getD j .null)) (A := AS s) (by decide) (nwd hn 10 (by decide +kernel)) (eqI (v := 8) (nwd hn 11 (by decide +kernel))) (fun j hj => by
    match j, hj with
    | 0, _ => exact va_eqv (nwd hn 13 (by decide +kernel)) (ev_1000 hn)
    | 1, _ => exact va_eqv (nwd hn 14 (by decide +kernel)) (ev_1001 hn)
    | 2, _ => exact va_eqv (nwd hn 15 (by decide +kernel)) (ev_1002 hn)
    | 3, _ => exact va_eqv (nwd hn 16 (by decide +kernel)) (ev_1003 hn)
    | 4, _ => exact va_eqv (nwd hn 17 (by decide +kernel)) (ev_1004 hn)
    | 5, _ => exact va_eqv (nwd hn 18 (by decide +kernel)) (ev_1005 hn)
    | 6, _ => exact va_eqv (nwd hn 19 (by decide +kernel)) (ev_1006 hn)
    | 7, _ => exact va_eqv (nwd hn 20 (by decide +kernel)) (ev_1007 hn)
    | q + 8, hq => exact absurd hq (by omega)) hAS
  have e := adr_of h1
  have e2 : a = rF b s 1080 := by
    have := h1.symm.trans e
    rw [rF_1080] at this
    cases this
    rfl
  rw [← e2]
  exact ⟨h1, h2⟩
theorem ar_1081 {b : Nat} {s : State} {D : va_G} {t : Nat → ClassId} {f : Value} {x : Nat × Nat × (Nat → Int32)} (hn : GV b s) : Ev b s (.static "FlowGates" "SIZES" "[I") (.ref (rF b s 1081)) ∧ va_T .int (rF b s 1081) 24 (fun j => sg_tr (tG D t s.heap.size (rF b s) f true x) (([.int 3, .int 5, .int 7, .int 11, .int 13, .int 17, .int 19, .int 23, .int 29, .int 31, .int 37, .int 41, .int 43, .int 47, .int 53, .int 59, .int 61, .int 67, .int 71, .int 73, .int 79, .int 83, .int 89, .int 97] : List Value).getD j .null)) (AS s) s s.heap := by
  obtain ⟨a, h1, h2⟩ := va_Tof (tm := (.static "FlowGates" "SIZES" "[I")) (ty := .int) (N := 24) (f := fun j => sg_tr (tG D t s.heap.size (rF b s) f true x) (([.int 3, .int 5, .int 7, .int 11, .int 13, .int 17, .int 19, .int 23, .int 29, .int 31, .int 37, .int 41, .int 43, .int 47, .int 53, .int 59, .int 61, .int 67, .int 71, .int 73, .int 79, .int 83, .int 89, .int 97] : List Value).getD j .null)) (A := AS s) (by decide) (nwd hn 32 (by decide +kernel)) (eqI (v := 24) (nwd hn 33 (by decide +kernel))) (fun j hj => by
    match j, hj with
    | 0, _ => exact eqI (v := 3) (nwd hn 34 (by decide +kernel))
    | 1, _ => exact eqI (v := 5) (nwd hn 35 (by decide +kernel))
    | 2, _ => exact eqI (v := 7) (nwd hn 36 (by decide +kernel))
    | 3, _ => exact eqI (v := 11) (nwd hn 37 (by decide +kernel))
    | 4, _ => exact eqI (v := 13) (nwd hn 38 (by decide +kernel))
    | 5, _ => exact eqI (v := 17) (nwd hn 39 (by decide +kernel))
    | 6, _ => exact eqI (v := 19) (nwd hn 40 (by decide +kernel))
    | 7, _ => exact eqI (v := 23) (nwd hn 41 (by decide +kernel))
    | 8, _ => exact eqI (v := 29) (nwd hn 42 (by decide +kernel))
    | 9, _ => exact eqI (v := 31) (nwd hn 43 (by decide +kernel))
    | 10, _ => exact eqI (v := 37) (nwd hn 44 (by decide +kernel))
    | 11, _ => exact eqI (v := 41) (nwd hn 45 (by decide +kernel))
    | 12, _ => exact eqI (v := 43) (nwd hn 46 (by decide +kernel))
    | 13, _ => exact eqI (v := 47) (nwd hn 47 (by decide +kernel))
    | 14, _ => exact eqI (v := 53) (nwd hn 48 (by decide +kernel))
    | 15, _ => exact eqI (v := 59) (nwd hn 49 (by decide +kernel))
    | 16, _ => exact eqI (v := 61) (nwd hn 50 (by decide +kernel))
    | 17, _ => exact eqI (v := 67) (nwd hn 51 (by decide +kernel))
    | 18, _ => exact eqI (v := 71) (nwd hn 52 (by decide +kernel))
    | 19, _ => exact eqI (v := 73) (nwd hn 53 (by decide +kernel))
    | 20, _ => exact eqI (v := 79) (nwd hn 54 (by decide +kernel))
    | 21, _ => exact eqI (v := 83) (nwd hn 55 (by decide +kernel))
    | 22, _ => exact eqI (v := 89) (nwd hn 56 (by decide +kernel))
    | 23, _ => exact eqI (v := 97) (nwd hn 57 (by decide +kernel))
    | q + 24, hq => exact absurd hq (by omega)) hAS
  have e := adr_of h1
  have e2 : a = rF b s 1081 := by
    have := h1.symm.trans e
    rw [rF_1081] at this
    cases this
    rfl
  rw [← e2]
  exact ⟨h1, h2⟩
theorem ar_1082 {b : Nat} {s : State} {D : va_G} {t : Nat → ClassId} {f : Value} {x : Nat × Nat × (Nat → Int32)} (hn : GV b s) : Ev b s (.static "FlowGates$1" "$SwitchMap$FlowGates$Verb" "[I") (.ref (rF b s 1082)) ∧ va_T .int (rF b s 1082) 8 (fun j => sg_tr (tG D t s.heap.size (rF b s) f true x) (([.int 1, .int 2, .int 3, .int 4, .int 5, .int 6, .int 7, .int 0] : List Value).getD j .null)) (AS s) s s.heap := by
  obtain ⟨a, h1, h2⟩ := va_Tof (tm := (.static "FlowGates$1" "$SwitchMap$FlowGates$Verb" "[I")) (ty := .int) (N := 8) (f := fun j => sg_tr (tG D t s.heap.size (rF b s) f true x) (([.int 1, .int 2, .int 3, .int 4, .int 5, .int 6, .int 7, .int 0] : List Value).getD j .null)) (A := AS s) (by decide) (nwd hn 59 (by decide +kernel)) (eqI (v := 8) (nwd hn 60 (by decide +kernel))) (fun j hj => by
    match j, hj with
    | 0, _ => exact eqI (v := 1) (nwd hn 61 (by decide +kernel))
    | 1, _ => exact eqI (v := 2) (nwd hn 62 (by decide +kernel))
    | 2, _ => exact eqI (v := 3) (nwd hn 63 (by decide +kernel))
    | 3, _ => exact eqI (v := 4) (nwd hn 64 (by decide +kernel))
    | 4, _ => exact eqI (v := 5) (nwd hn 65 (by decide +kernel))
    | 5, _ => exact eqI (v := 6) (nwd hn 66 (by decide +kernel))
    | 6, _ => exact eqI (v := 7) (nwd hn 67 (by decide +kernel))
    | 7, _ => exact eqI (v := 0) (nwd hn 68 (by decide +kernel))
    | q + 8, hq => exact absurd hq (by omega)) hAS
  have e := adr_of h1
  have e2 : a = rF b s 1082 := by
    have := h1.symm.trans e
    rw [rF_1082] at this
    cases this
    rfl
  rw [← e2]
  exact ⟨h1, h2⟩
