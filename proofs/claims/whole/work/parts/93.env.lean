theorem ar_1040 {b : Nat} {s : State} {D : va_G} {t : Nat → ClassId} {f : Value} {x : Nat × Nat × (Nat → Int32)} (hn : GV b s) : Ev b s (.field (.string "FlowGates$Teller" 101) "java/lang/String" "value" "[B") (.ref (rF b s 1040)) ∧ va_T .byte (rF b s 1040) 2 (fun j => sg_tr (tG D t s.heap.size (rF b s) f true x) (([.int 117, .int 112] : List Value).getD j .null)) (AS s) s s.heap := by
  obtain ⟨a, h1, h2⟩ := va_Tof (tm := (.field (.string "FlowGates$Teller" 101) "java/lang/String" "value" "[B")) (ty := .byte) (N := 2) (f := fun j => sg_tr (tG D t s.heap.size (rF b s) f true x) (([.int 117, .int 112] : List Value).getD j .null)) (A := AS s) (by decide) (nwd hn 133 (by decide +kernel)) (eqI (v := 2) (nwd hn 134 (by decide +kernel))) (fun j hj => by
    match j, hj with
    | 0, _ => exact eqI (v := 117) (nwd hn 135 (by decide +kernel))
    | 1, _ => exact eqI (v := 112) (nwd hn 136 (by decide +kernel))
    | q + 2, hq => exact absurd hq (by omega)) hAS
  have e := adr_of h1
  have e2 : a = rF b s 1040 := by
    have := h1.symm.trans e
    rw [rF_1040] at this
    cases this
    rfl
  rw [← e2]
  exact ⟨h1, h2⟩
theorem ar_1041 {b : Nat} {s : State} {D : va_G} {t : Nat → ClassId} {f : Value} {x : Nat × Nat × (Nat → Int32)} (hn : GV b s) : Ev b s (.field (.string "FlowGates$Teller" 103) "java/lang/String" "value" "[B") (.ref (rF b s 1041)) ∧ va_T .byte (rF b s 1041) 4 (fun j => sg_tr (tG D t s.heap.size (rF b s) f true x) (([.int 100, .int 111, .int 119, .int 110] : List Value).getD j .null)) (AS s) s s.heap := by
  obtain ⟨a, h1, h2⟩ := va_Tof (tm := (.field (.string "FlowGates$Teller" 103) "java/lang/String" "value" "[B")) (ty := .byte) (N := 4) (f := fun j => sg_tr (tG D t s.heap.size (rF b s) f true x) (([.int 100, .int 111, .int 119, .int 110] : List Value).getD j .null)) (A := AS s) (by decide) (nwd hn 139 (by decide +kernel)) (eqI (v := 4) (nwd hn 140 (by decide +kernel))) (fun j hj => by
    match j, hj with
    | 0, _ => exact eqI (v := 100) (nwd hn 141 (by decide +kernel))
    | 1, _ => exact eqI (v := 111) (nwd hn 142 (by decide +kernel))
    | 2, _ => exact eqI (v := 119) (nwd hn 143 (by decide +kernel))
    | 3, _ => exact eqI (v := 110) (nwd hn 144 (by decide +kernel))
    | q + 4, hq => exact absurd hq (by omega)) hAS
  have e := adr_of h1
  have e2 : a = rF b s 1041 := by
    have := h1.symm.trans e
    rw [rF_1041] at this
    cases this
    rfl
  rw [← e2]
  exact ⟨h1, h2⟩
theorem ar_1042 {b : Nat} {s : State} {D : va_G} {t : Nat → ClassId} {f : Value} {x : Nat × Nat × (Nat → Int32)} (hn : GV b s) : Ev b s (.field (.string "FlowGates$Teller" 105) "java/lang/String" "value" "[B") (.ref (rF b s 1042)) ∧ va_T .byte (rF b s 1042) 5 (fun j => sg_tr (tG D t s.heap.size (rF b s) f true x) (([.int 100, .int 114, .int 97, .int 105, .int 110] : List Value).getD j .null)) (AS s) s s.heap := by
  obtain ⟨a, h1, h2⟩ := va_Tof (tm := (.field (.string "FlowGates$Teller" 105) "java/lang/String" "value" "[B")) (ty := .byte) (N := 5) (f := fun j => sg_tr (tG D t s.heap.size (rF b s) f true x) (([.int 100, .int 114, .int 97, .int 105, .int 110] : List Value).getD j .null)) (A := AS s) (by decide) (nwd hn 148 (by decide +kernel)) (eqI (v := 5) (nwd hn 149 (by decide +kernel))) (fun j hj => by
    match j, hj with
    | 0, _ => exact eqI (v := 100) (nwd hn 150 (by decide +kernel))
    | 1, _ => exact eqI (v := 114) (nwd hn 151 (by decide +kernel))
    | 2, _ => exact eqI (v := 97) (nwd hn 152 (by decide +kernel))
    | 3, _ => exact eqI (v := 105) (nwd hn 153 (by decide +kernel))
    | 4, _ => exact eqI (v := 110) (nwd hn 154 (by decide +kernel))
    | q + 5, hq => exact absurd hq (by omega)) hAS
  have e := adr_of h1
  have e2 : a = rF b s 1042 := by
    have := h1.symm.trans e
    rw [rF_1042] at this
    cases this
    rfl
  rw [← e2]
  exact ⟨h1, h2⟩
theorem ar_1043 {b : Nat} {s : State} {D : va_G} {t : Nat → ClassId} {f : Value} {x : Nat × Nat × (Nat → Int32)} (hn : GV b s) : Ev b s (.field (.string "FlowGates$Teller" 92) "java/lang/String" "value" "[B") (.ref (rF b s 1043)) ∧ va_T .byte (rF b s 1043) 3 (fun j => sg_tr (tG D t s.heap.size (rF b s) f true x) (([.int 97, .int 108, .int 108] : List Value).getD j .null)) (AS s) s s.heap := by
  obtain ⟨a, h1, h2⟩ := va_Tof (tm := (.field (.string "FlowGates$Teller" 92) "java/lang/String" "value" "[B")) (ty := .byte) (N := 3) (f := fun j => sg_tr (tG D t s.heap.size (rF b s) f true x) (([.int 97, .int 108, .int 108] : List Value).getD j .null)) (A := AS s) (by decide) (nwd hn 159 (by decide +kernel)) (eqI (v := 3) (nwd hn 160 (by decide +kernel))) (fun j hj => by
    match j, hj with
    | 0, _ => exact eqI (v := 97) (nwd hn 161 (by decide +kernel))
    | 1, _ => exact eqI (v := 108) (nwd hn 162 (by decide +kernel))
    | 2, _ => exact eqI (v := 108) (nwd hn 163 (by decide +kernel))
    | q + 3, hq => exact absurd hq (by omega)) hAS
  have e := adr_of h1
  have e2 : a = rF b s 1043 := by
    have := h1.symm.trans e
    rw [rF_1043] at this
    cases this
    rfl
  rw [← e2]
  exact ⟨h1, h2⟩
theorem ar_1044 {b : Nat} {s : State} {D : va_G} {t : Nat → ClassId} {f : Value} {x : Nat × Nat × (Nat → Int32)} (hn : GV b s) : Ev b s (.field (.string "FlowGates" 170) "java/lang/String" "value" "[B") (.ref (rF b s 1044)) ∧ va_T .byte (rF b s 1044) 15 (fun j => sg_tr (tG D t s.heap.size (rF b s) f true x) (([.int 110, .int 111, .int 32, .int 115, .int 117, .int 99, .int 104, .int 32, .int 98, .int 97, .int 99, .int 107, .int 101, .int 110, .int 100] : List Value).getD j .null)) (AS s) s s.heap := by
  obtain ⟨a, h1, h2⟩ := va_Tof (tm := (.field (.string "FlowGates" 170) "java/lang/String" "value" "[B")) (ty := .byte) (N := 15) (f := fun j => sg_tr (tG D t s.heap.size (rF b s) f true x) (([.int 110, .int 111, .int 32, .int 115, .int 117, .int 99, .int 104, .int 32, .int 98, .int 97, .int 99, .int 107, .int 101, .int 110, .int 100] : List Value).getD j .null)) (A := AS s) (by decide) (nwd hn 169 (by decide +kernel)) (eqI (v := 15) (nwd hn 170 (by decide +kernel))) (fun j hj => by
    match j, hj with
    | 0, _ => exact eqI (v := 110) (nwd hn 171 (by decide +kernel))
    | 1, _ => exact eqI (v := 111) (nwd hn 172 (by decide +kernel))
    | 2, _ => exact eqI (v := 32) (nwd hn 173 (by decide +kernel))
    | 3, _ => exact eqI (v := 115) (nwd hn 174 (by decide +kernel))
    | 4, _ => exact eqI (v := 117) (nwd hn 175 (by decide +kernel))
    | 5, _ => exact eqI (v := 99) (nwd hn 176 (by decide +kernel))
    | 6, _ => exact eqI (v := 104) (nwd hn 177 (by decide +kernel))
    | 7, _ => exact eqI (v := 32) (nwd hn 178 (by decide +kernel))
    | 8, _ => exact eqI (v := 98) (nwd hn 179 (by decide +kernel))
    | 9, _ => exact eqI (v := 97) (nwd hn 180 (by decide +kernel))
    | 10, _ => exact eqI (v := 99) (nwd hn 181 (by decide +kernel))
    | 11, _ => exact eqI (v := 107) (nwd hn 182 (by decide +kernel))
    | 12, _ => exact eqI (v := 101) (nwd hn 183 (by decide +kernel))
    | 13, _ => exact eqI (v := 110) (nwd hn 184 (by decide +kernel))
    | 14, _ => exact eqI (v := 100) (nwd hn 185 (by decide +kernel))
    | q + 15, hq => exact absurd hq (by omega)) hAS
  have e := adr_of h1
  have e2 : a = rF b s 1044 := by
    have := h1.symm.trans e
    rw [rF_1044] at this
    cases this
    rfl
  rw [← e2]
  exact ⟨h1, h2⟩
theorem ar_1045 {b : Nat} {s : State} {D : va_G} {t : Nat → ClassId} {f : Value} {x : Nat × Nat × (Nat → Int32)} (hn : GV b s) : Ev b s (.field (.string "FlowGates" 187) "java/lang/String" "value" "[B") (.ref (rF b s 1045)) ∧ va_T .byte (rF b s 1045) 25 (fun j => sg_tr (tG D t s.heap.size (rF b s) f true x) (([.int 110, .int 111, .int 116, .int 104, .int 105, .int 110, .int 103, .int 32, .int 115, .int 117, .int 99, .int 104, .int 32, .int 111, .int 102, .int 32, .int 97, .int 32, .int 98, .int 97, .int 99, .int 107, .int 101, .int 110, .int 100] : List Value).getD j .null)) (AS s) s s.heap := by
  obtain ⟨a, h1, h2⟩ := va_Tof (tm := (.field (.string "FlowGates" 187) "java/lang/String" "value" "[B")) (ty := .byte) (N := 25) (f := fun j => sg_tr (tG D t s.heap.size (rF b s) f true x) (([.int 110, .int 111, .int 116, .int 104, .int 105, .int 110, .int 103, .int 32, .int 115, .int 117, .int 99, .int 104, .int 32, .int 111, .int 102, .int 32, .int 97, .int 32, .int 98, .int 97, .int 99, .int 107, .int 101, .int 110, .int 100] : List Value).getD j .null)) (A := AS s) (by decide) (nwd hn 192 (by decide +kernel)) (eqI (v := 25) (nwd hn 193 (by decide +kernel))) (fun j hj => by
    match j, hj with
    | 0, _ => exact eqI (v := 110) (nwd hn 194 (by decide +kernel))
    | 1, _ => exact eqI (v := 111) (nwd hn 195 (by decide +kernel))
    | 2, _ => exact eqI (v := 116) (nwd hn 196 (by decide +kernel))
    | 3, _ => exact eqI (v := 104) (nwd hn 197 (by decide +kernel))
    | 4, _ => exact eqI (v := 105) (nwd hn 198 (by decide +kernel))
    | 5, _ => exact eqI (v := 110) (nwd hn 199 (by decide +kernel))
    | 6, _ => exact eqI (v := 103) (nwd hn 200 (by decide +kernel))
    | 7, _ => exact eqI (v := 32) (nwd hn 201 (by decide +kernel))
    | 8, _ => exact eqI (v := 115) (nwd hn 202 (by decide +kernel))
    | 9, _ => exact eqI (v := 117) (nwd hn 203 (by decide +kernel))
    | 10, _ => exact eqI (v := 99) (nwd hn 204 (by decide +kernel))
    | 11, _ => exact eqI (v := 104) (nwd hn 205 (by decide +kernel))
    | 12, _ => exact eqI (v := 32) (nwd hn 206 (by decide +kernel))
    | 13, _ => exact eqI (v := 111) (nwd hn 207 (by decide +kernel))
    | 14, _ => exact eqI (v := 102) (nwd hn 208 (by decide +kernel))
    | 15, _ => exact eqI (v := 32) (nwd hn 209 (by decide +kernel))
    | 16, _ => exact eqI (v := 97) (nwd hn 210 (by decide +kernel))
    | 17, _ => exact eqI (v := 32) (nwd hn 211 (by decide +kernel))
    | 18, _ => exact eqI (v := 98) (nwd hn 212 (by decide +kernel))
    | 19, _ => exact eqI (v := 97) (nwd hn 213 (by decide +kernel))
    | 20, _ => exact eqI (v := 99) (nwd hn 214 (by decide +kernel))
    | 21, _ => exact eqI (v := 107) (nwd hn 215 (by decide +kernel))
    | 22, _ => exact eqI (v := 101) (nwd hn 216 (by decide +kernel))
    | 23, _ => exact eqI (v := 110) (nwd hn 217 (by decide +kernel))
    | 24, _ => exact eqI (v := 100) (nwd hn 218 (by decide +kernel))
    | q + 25, hq => exact absurd hq (by omega)) hAS
  have e := adr_of h1
  have e2 : a = rF b s 1045 := by
    have := h1.symm.trans e
    rw [rF_1045] at this
    cases this
    rfl
  rw [← e2]
  exact ⟨h1, h2⟩
theorem ar_1046 {b : Nat} {s : State} {D : va_G} {t : Nat → ClassId} {f : Value} {x : Nat × Nat × (Nat → Int32)} (hn : GV b s) : Ev b s (.field (.string "FlowGates$Verb" 55) "java/lang/String" "value" "[B") (.ref (rF b s 1046)) ∧ va_T .byte (rF b s 1046) 4 (fun j => sg_tr (tG D t s.heap.size (rF b s) f true x) (([.int 115, .int 105, .int 122, .int 101] : List Value).getD j .null)) (AS s) s s.heap := by
  obtain ⟨a, h1, h2⟩ := va_Tof (tm := (.field (.string "FlowGates$Verb" 55) "java/lang/String" "value" "[B")) (ty := .byte) (N := 4) (f := fun j => sg_tr (tG D t s.heap.size (rF b s) f true x) (([.int 115, .int 105, .int 122, .int 101] : List Value).getD j .null)) (A := AS s) (by decide) (nwd hn 226 (by decide +kernel)) (eqI (v := 4) (nwd hn 227 (by decide +kernel))) (fun j hj => by
    match j, hj with
    | 0, _ => exact eqI (v := 115) (nwd hn 228 (by decide +kernel))
    | 1, _ => exact eqI (v := 105) (nwd hn 229 (by decide +kernel))
    | 2, _ => exact eqI (v := 122) (nwd hn 230 (by decide +kernel))
    | 3, _ => exact eqI (v := 101) (nwd hn 231 (by decide +kernel))
    | q + 4, hq => exact absurd hq (by omega)) hAS
  have e := adr_of h1
  have e2 : a = rF b s 1046 := by
    have := h1.symm.trans e
    rw [rF_1046] at this
    cases this
    rfl
  rw [← e2]
  exact ⟨h1, h2⟩
theorem ar_1047 {b : Nat} {s : State} {D : va_G} {t : Nat → ClassId} {f : Value} {x : Nat × Nat × (Nat → Int32)} (hn : GV b s) : Ev b s (.field (.string "FlowGates$Verb" 57) "java/lang/String" "value" "[B") (.ref (rF b s 1047)) ∧ va_T .byte (rF b s 1047) 1 (fun j => sg_tr (tG D t s.heap.size (rF b s) f true x) (([.int 83] : List Value).getD j .null)) (AS s) s s.heap := by
  obtain ⟨a, h1, h2⟩ := va_Tof (tm := (.field (.string "FlowGates$Verb" 57) "java/lang/String" "value" "[B")) (ty := .byte) (N := 1) (f := fun j => sg_tr (tG D t s.heap.size (rF b s) f true x) (([.int 83] : List Value).getD j .null)) (A := AS s) (by decide) (nwd hn 240 (by decide +kernel)) (eqI (v := 1) (nwd hn 241 (by decide +kernel))) (fun j hj => by
    match j, hj with
    | 0, _ => exact eqI (v := 83) (nwd hn 242 (by decide +kernel))
    | q + 1, hq => exact absurd hq (by omega)) hAS
  have e := adr_of h1
  have e2 : a = rF b s 1047 := by
    have := h1.symm.trans e
    rw [rF_1047] at this
    cases this
    rfl
  rw [← e2]
  exact ⟨h1, h2⟩
theorem ar_1048 {b : Nat} {s : State} {D : va_G} {t : Nat → ClassId} {f : Value} {x : Nat × Nat × (Nat → Int32)} (hn : GV b s) : Ev b s (.field (.string "FlowGates$Verb" 63) "java/lang/String" "value" "[B") (.ref (rF b s 1048)) ∧ va_T .byte (rF b s 1048) 4 (fun j => sg_tr (tG D t s.heap.size (rF b s) f true x) (([.int 98, .int 97, .int 99, .int 107] : List Value).getD j .null)) (AS s) s s.heap := by
  obtain ⟨a, h1, h2⟩ := va_Tof (tm := (.field (.string "FlowGates$Verb" 63) "java/lang/String" "value" "[B")) (ty := .byte) (N := 4) (f := fun j => sg_tr (tG D t s.heap.size (rF b s) f true x) (([.int 98, .int 97, .int 99, .int 107] : List Value).getD j .null)) (A := AS s) (by decide) (nwd hn 252 (by decide +kernel)) (eqI (v := 4) (nwd hn 253 (by decide +kernel))) (fun j hj => by
    match j, hj with
    | 0, _ => exact eqI (v := 98) (nwd hn 254 (by decide +kernel))
    | 1, _ => exact eqI (v := 97) (nwd hn 255 (by decide +kernel))
    | 2, _ => exact eqI (v := 99) (nwd hn 256 (by decide +kernel))
    | 3, _ => exact eqI (v := 107) (nwd hn 257 (by decide +kernel))
    | q + 4, hq => exact absurd hq (by omega)) hAS
  have e := adr_of h1
  have e2 : a = rF b s 1048 := by
    have := h1.symm.trans e
    rw [rF_1048] at this
    cases this
    rfl
  rw [← e2]
  exact ⟨h1, h2⟩
theorem ar_1049 {b : Nat} {s : State} {D : va_G} {t : Nat → ClassId} {f : Value} {x : Nat × Nat × (Nat → Int32)} (hn : GV b s) : Ev b s (.field (.string "FlowGates$Verb" 65) "java/lang/String" "value" "[B") (.ref (rF b s 1049)) ∧ va_T .byte (rF b s 1049) 2 (fun j => sg_tr (tG D t s.heap.size (rF b s) f true x) (([.int 75, .int 87] : List Value).getD j .null)) (AS s) s s.heap := by
  obtain ⟨a, h1, h2⟩ := va_Tof (tm := (.field (.string "FlowGates$Verb" 65) "java/lang/String" "value" "[B")) (ty := .byte) (N := 2) (f := fun j => sg_tr (tG D t s.heap.size (rF b s) f true x) (([.int 75, .int 87] : List Value).getD j .null)) (A := AS s) (by decide) (nwd hn 268 (by decide +kernel)) (eqI (v := 2) (nwd hn 269 (by decide +kernel))) (fun j hj => by
    match j, hj with
    | 0, _ => exact eqI (v := 75) (nwd hn 270 (by decide +kernel))
    | 1, _ => exact eqI (v := 87) (nwd hn 271 (by decide +kernel))
    | q + 2, hq => exact absurd hq (by omega)) hAS
  have e := adr_of h1
  have e2 : a = rF b s 1049 := by
    have := h1.symm.trans e
    rw [rF_1049] at this
    cases this
    rfl
  rw [← e2]
  exact ⟨h1, h2⟩
theorem ar_1050 {b : Nat} {s : State} {D : va_G} {t : Nat → ClassId} {f : Value} {x : Nat × Nat × (Nat → Int32)} (hn : GV b s) : Ev b s (.field (.string "FlowGates$Verb" 68) "java/lang/String" "value" "[B") (.ref (rF b s 1050)) ∧ va_T .byte (rF b s 1050) 5 (fun j => sg_tr (tG D t s.heap.size (rF b s) f true x) (([.int 119, .int 101, .int 105, .int 103, .int 104] : List Value).getD j .null)) (AS s) s s.heap := by
  obtain ⟨a, h1, h2⟩ := va_Tof (tm := (.field (.string "FlowGates$Verb" 68) "java/lang/String" "value" "[B")) (ty := .byte) (N := 5) (f := fun j => sg_tr (tG D t s.heap.size (rF b s) f true x) (([.int 119, .int 101, .int 105, .int 103, .int 104] : List Value).getD j .null)) (A := AS s) (by decide) (nwd hn 283 (by decide +kernel)) (eqI (v := 5) (nwd hn 284 (by decide +kernel))) (fun j hj => by
    match j, hj with
    | 0, _ => exact eqI (v := 119) (nwd hn 285 (by decide +kernel))
    | 1, _ => exact eqI (v := 101) (nwd hn 286 (by decide +kernel))
    | 2, _ => exact eqI (v := 105) (nwd hn 287 (by decide +kernel))
    | 3, _ => exact eqI (v := 103) (nwd hn 288 (by decide +kernel))
    | 4, _ => exact eqI (v := 104) (nwd hn 289 (by decide +kernel))
    | q + 5, hq => exact absurd hq (by omega)) hAS
  have e := adr_of h1
  have e2 : a = rF b s 1050 := by
    have := h1.symm.trans e
    rw [rF_1050] at this
    cases this
    rfl
  rw [← e2]
  exact ⟨h1, h2⟩
theorem ar_1051 {b : Nat} {s : State} {D : va_G} {t : Nat → ClassId} {f : Value} {x : Nat × Nat × (Nat → Int32)} (hn : GV b s) : Ev b s (.field (.string "FlowGates$Verb" 70) "java/lang/String" "value" "[B") (.ref (rF b s 1051)) ∧ va_T .byte (rF b s 1051) 2 (fun j => sg_tr (tG D t s.heap.size (rF b s) f true x) (([.int 66, .int 87] : List Value).getD j .null)) (AS s) s s.heap := by
  obtain ⟨a, h1, h2⟩ := va_Tof (tm := (.field (.string "FlowGates$Verb" 70) "java/lang/String" "value" "[B")) (ty := .byte) (N := 2) (f := fun j => sg_tr (tG D t s.heap.size (rF b s) f true x) (([.int 66, .int 87] : List Value).getD j .null)) (A := AS s) (by decide) (nwd hn 302 (by decide +kernel)) (eqI (v := 2) (nwd hn 303 (by decide +kernel))) (fun j hj => by
    match j, hj with
    | 0, _ => exact eqI (v := 66) (nwd hn 304 (by decide +kernel))
    | 1, _ => exact eqI (v := 87) (nwd hn 305 (by decide +kernel))
    | q + 2, hq => exact absurd hq (by omega)) hAS
  have e := adr_of h1
  have e2 : a = rF b s 1051 := by
    have := h1.symm.trans e
    rw [rF_1051] at this
    cases this
    rfl
  rw [← e2]
  exact ⟨h1, h2⟩
theorem ar_1052 {b : Nat} {s : State} {D : va_G} {t : Nat → ClassId} {f : Value} {x : Nat × Nat × (Nat → Int32)} (hn : GV b s) : Ev b s (.field (.string "FlowGates$Verb" 73) "java/lang/String" "value" "[B") (.ref (rF b s 1052)) ∧ va_T .byte (rF b s 1052) 3 (fun j => sg_tr (tG D t s.heap.size (rF b s) f true x) (([.int 115, .int 101, .int 101] : List Value).getD j .null)) (AS s) s s.heap := by
  obtain ⟨a, h1, h2⟩ := va_Tof (tm := (.field (.string "FlowGates$Verb" 73) "java/lang/String" "value" "[B")) (ty := .byte) (N := 3) (f := fun j => sg_tr (tG D t s.heap.size (rF b s) f true x) (([.int 115, .int 101, .int 101] : List Value).getD j .null)) (A := AS s) (by decide) (nwd hn 319 (by decide +kernel)) (eqI (v := 3) (nwd hn 320 (by decide +kernel))) (fun j hj => by
    match j, hj with
    | 0, _ => exact eqI (v := 115) (nwd hn 321 (by decide +kernel))
    | 1, _ => exact eqI (v := 101) (nwd hn 322 (by decide +kernel))
    | 2, _ => exact eqI (v := 101) (nwd hn 323 (by decide +kernel))
    | q + 3, hq => exact absurd hq (by omega)) hAS
  have e := adr_of h1
  have e2 : a = rF b s 1052 := by
    have := h1.symm.trans e
    rw [rF_1052] at this
    cases this
    rfl
  rw [← e2]
  exact ⟨h1, h2⟩
theorem ar_1053 {b : Nat} {s : State} {D : va_G} {t : Nat → ClassId} {f : Value} {x : Nat × Nat × (Nat → Int32)} (hn : GV b s) : Ev b s (.field (.string "FlowGates$Verb" 75) "java/lang/String" "value" "[B") (.ref (rF b s 1053)) ∧ va_T .byte (rF b s 1053) 3 (fun j => sg_tr (tG D t s.heap.size (rF b s) f true x) (([.int 71, .int 66, .int 72] : List Value).getD j .null)) (AS s) s s.heap := by
  obtain ⟨a, h1, h2⟩ := va_Tof (tm := (.field (.string "FlowGates$Verb" 75) "java/lang/String" "value" "[B")) (ty := .byte) (N := 3) (f := fun j => sg_tr (tG D t s.heap.size (rF b s) f true x) (([.int 71, .int 66, .int 72] : List Value).getD j .null)) (A := AS s) (by decide) (nwd hn 338 (by decide +kernel)) (eqI (v := 3) (nwd hn 339 (by decide +kernel))) (fun j hj => by
    match j, hj with
    | 0, _ => exact eqI (v := 71) (nwd hn 340 (by decide +kernel))
    | 1, _ => exact eqI (v := 66) (nwd hn 341 (by decide +kernel))
    | 2, _ => exact eqI (v := 72) (nwd hn 342 (by decide +kernel))
    | q + 3, hq => exact absurd hq (by omega)) hAS
  have e := adr_of h1
  have e2 : a = rF b s 1053 := by
    have := h1.symm.trans e
    rw [rF_1053] at this
    cases this
    rfl
  rw [← e2]
  exact ⟨h1, h2⟩
theorem ar_1054 {b : Nat} {s : State} {D : va_G} {t : Nat → ClassId} {f : Value} {x : Nat × Nat × (Nat → Int32)} (hn : GV b s) : Ev b s (.field (.string "FlowGates$Verb" 78) "java/lang/String" "value" "[B") (.ref (rF b s 1054)) ∧ va_T .byte (rF b s 1054) 4 (fun j => sg_tr (tG D t s.heap.size (rF b s) f true x) (([.int 116, .int 105, .int 99, .int 107] : List Value).getD j .null)) (AS s) s s.heap := by
  obtain ⟨a, h1, h2⟩ := va_Tof (tm := (.field (.string "FlowGates$Verb" 78) "java/lang/String" "value" "[B")) (ty := .byte) (N := 4) (f := fun j => sg_tr (tG D t s.heap.size (rF b s) f true x) (([.int 116, .int 105, .int 99, .int 107] : List Value).getD j .null)) (A := AS s) (by decide) (nwd hn 358 (by decide +kernel)) (eqI (v := 4) (nwd hn 359 (by decide +kernel))) (fun j hj => by
    match j, hj with
    | 0, _ => exact eqI (v := 116) (nwd hn 360 (by decide +kernel))
    | 1, _ => exact eqI (v := 105) (nwd hn 361 (by decide +kernel))
    | 2, _ => exact eqI (v := 99) (nwd hn 362 (by decide +kernel))
    | 3, _ => exact eqI (v := 107) (nwd hn 363 (by decide +kernel))
    | q + 4, hq => exact absurd hq (by omega)) hAS
  have e := adr_of h1
  have e2 : a = rF b s 1054 := by
    have := h1.symm.trans e
    rw [rF_1054] at this
    cases this
    rfl
  rw [← e2]
  exact ⟨h1, h2⟩
theorem ar_1055 {b : Nat} {s : State} {D : va_G} {t : Nat → ClassId} {f : Value} {x : Nat × Nat × (Nat → Int32)} (hn : GV b s) : Ev b s (.field (.string "FlowGates$Verb" 80) "java/lang/String" "value" "[B") (.ref (rF b s 1055)) ∧ va_T .byte (rF b s 1055) 1 (fun j => sg_tr (tG D t s.heap.size (rF b s) f true x) (([.int 84] : List Value).getD j .null)) (AS s) s s.heap := by
  obtain ⟨a, h1, h2⟩ := va_Tof (tm := (.field (.string "FlowGates$Verb" 80) "java/lang/String" "value" "[B")) (ty := .byte) (N := 1) (f := fun j => sg_tr (tG D t s.heap.size (rF b s) f true x) (([.int 84] : List Value).getD j .null)) (A := AS s) (by decide) (nwd hn 380 (by decide +kernel)) (eqI (v := 1) (nwd hn 381 (by decide +kernel))) (fun j hj => by
    match j, hj with
    | 0, _ => exact eqI (v := 84) (nwd hn 382 (by decide +kernel))
    | q + 1, hq => exact absurd hq (by omega)) hAS
  have e := adr_of h1
  have e2 : a = rF b s 1055 := by
    have := h1.symm.trans e
    rw [rF_1055] at this
    cases this
    rfl
  rw [← e2]
  exact ⟨h1, h2⟩
theorem ar_1056 {b : Nat} {s : State} {D : va_G} {t : Nat → ClassId} {f : Value} {x : Nat × Nat × (Nat → Int32)} (hn : GV b s) : Ev b s (.field (.string "FlowGates$Verb" 83) "java/lang/String" "value" "[B") (.ref (rF b s 1056)) ∧ va_T .byte (rF b s 1056) 4 (fun j => sg_tr (tG D t s.heap.size (rF b s) f true x) (([.int 114, .int 111, .int 111, .int 109] : List Value).getD j .null)) (AS s) s s.heap := by
  obtain ⟨a, h1, h2⟩ := va_Tof (tm := (.field (.string "FlowGates$Verb" 83) "java/lang/String" "value" "[B")) (ty := .byte) (N := 4) (f := fun j => sg_tr (tG D t s.heap.size (rF b s) f true x) (([.int 114, .int 111, .int 111, .int 109] : List Value).getD j .null)) (A := AS s) (by decide) (nwd hn 400 (by decide +kernel)) (eqI (v := 4) (nwd hn 401 (by decide +kernel))) (fun j hj => by
    match j, hj with
    | 0, _ => exact eqI (v := 114) (nwd hn 402 (by decide +kernel))
    | 1, _ => exact eqI (v := 111) (nwd hn 403 (by decide +kernel))
    | 2, _ => exact eqI (v := 111) (nwd hn 404 (by decide +kernel))
    | 3, _ => exact eqI (v := 109) (nwd hn 405 (by decide +kernel))
    | q + 4, hq => exact absurd hq (by omega)) hAS
  have e := adr_of h1
  have e2 : a = rF b s 1056 := by
    have := h1.symm.trans e
    rw [rF_1056] at this
    cases this
    rfl
  rw [← e2]
  exact ⟨h1, h2⟩
theorem ar_1057 {b : Nat} {s : State} {D : va_G} {t : Nat → ClassId} {f : Value} {x : Nat × Nat × (Nat → Int32)} (hn : GV b s) : Ev b s (.field (.string "FlowGates$Verb" 85) "java/lang/String" "value" "[B") (.ref (rF b s 1057)) ∧ va_T .byte (rF b s 1057) 1 (fun j => sg_tr (tG D t s.heap.size (rF b s) f true x) (([.int 82] : List Value).getD j .null)) (AS s) s s.heap := by
  obtain ⟨a, h1, h2⟩ := va_Tof (tm := (.field (.string "FlowGates$Verb" 85) "java/lang/String" "value" "[B")) (ty := .byte) (N := 1) (f := fun j => sg_tr (tG D t s.heap.size (rF b s) f true x) (([.int 82] : List Value).getD j .null)) (A := AS s) (by decide) (nwd hn 424 (by decide +kernel)) (eqI (v := 1) (nwd hn 425 (by decide +kernel))) (fun j hj => by
    match j, hj with
    | 0, _ => exact eqI (v := 82) (nwd hn 426 (by decide +kernel))
    | q + 1, hq => exact absurd hq (by omega)) hAS
  have e := adr_of h1
  have e2 : a = rF b s 1057 := by
    have := h1.symm.trans e
    rw [rF_1057] at this
    cases this
    rfl
  rw [← e2]
  exact ⟨h1, h2⟩
theorem ar_1058 {b : Nat} {s : State} {D : va_G} {t : Nat → ClassId} {f : Value} {x : Nat × Nat × (Nat → Int32)} (hn : GV b s) : Ev b s (.field (.string "FlowGates$Verb" 88) "java/lang/String" "value" "[B") (.ref (rF b s 1058)) ∧ va_T .byte (rF b s 1058) 3 (fun j => sg_tr (tG D t s.heap.size (rF b s) f true x) (([.int 97, .int 103, .int 101] : List Value).getD j .null)) (AS s) s s.heap := by
  obtain ⟨a, h1, h2⟩ := va_Tof (tm := (.field (.string "FlowGates$Verb" 88) "java/lang/String" "value" "[B")) (ty := .byte) (N := 3) (f := fun j => sg_tr (tG D t s.heap.size (rF b s) f true x) (([.int 97, .int 103, .int 101] : List Value).getD j .null)) (A := AS s) (by decide) (nwd hn 446 (by decide +kernel)) (eqI (v := 3) (nwd hn 447 (by decide +kernel))) (fun j hj => by
    match j, hj with
    | 0, _ => exact eqI (v := 97) (nwd hn 448 (by decide +kernel))
    | 1, _ => exact eqI (v := 103) (nwd hn 449 (by decide +kernel))
    | 2, _ => exact eqI (v := 101) (nwd hn 450 (by decide +kernel))
    | q + 3, hq => exact absurd hq (by omega)) hAS
  have e := adr_of h1
  have e2 : a = rF b s 1058 := by
    have := h1.symm.trans e
    rw [rF_1058] at this
    cases this
    rfl
  rw [← e2]
  exact ⟨h1, h2⟩
theorem ar_1059 {b : Nat} {s : State} {D : va_G} {t : Nat → ClassId} {f : Value} {x : Nat × Nat × (Nat → Int32)} (hn : GV b s) : Ev b s (.field (.string "FlowGates$Verb" 90) "java/lang/String" "value" "[B") (.ref (rF b s 1059)) ∧ va_T .byte (rF b s 1059) 1 (fun j => sg_tr (tG D t s.heap.size (rF b s) f true x) (([.int 65] : List Value).getD j .null)) (AS s) s s.heap := by
  obtain ⟨a, h1, h2⟩ := va_Tof (tm := (.field (.string "FlowGates$Verb" 90) "java/lang/String" "value" "[B")) (ty := .byte) (N := 1) (f := fun j => sg_tr (tG D t s.heap.size (rF b s) f true x) (([.int 65] : List Value).getD j .null)) (A := AS s) (by decide) (nwd hn 471 (by decide +kernel)) (eqI (v := 1) (nwd hn 472 (by decide +kernel))) (fun j hj => by
    match j, hj with
    | 0, _ => exact eqI (v := 65) (nwd hn 473 (by decide +kernel))
    | q + 1, hq => exact absurd hq (by omega)) hAS
  have e := adr_of h1
  have e2 : a = rF b s 1059 := by
    have := h1.symm.trans e
    rw [rF_1059] at this
    cases this
    rfl
  rw [← e2]
  exact ⟨h1, h2⟩
theorem ar_1060 {b : Nat} {s : State} {D : va_G} {t : Nat → ClassId} {f : Value} {x : Nat × Nat × (Nat → Int32)} (hn : GV b s) : Ev b s (.field (.string "FlowGates$Verb" 93) "java/lang/String" "value" "[B") (.ref (rF b s 1060)) ∧ va_T .byte (rF b s 1060) 4 (fun j => sg_tr (tG D t s.heap.size (rF b s) f true x) (([.int 112, .int 97, .int 99, .int 107] : List Value).getD j .null)) (AS s) s s.heap := by
  obtain ⟨a, h1, h2⟩ := va_Tof (tm := (.field (.string "FlowGates$Verb" 93) "java/lang/String" "value" "[B")) (ty := .byte) (N := 4) (f := fun j => sg_tr (tG D t s.heap.size (rF b s) f true x) (([.int 112, .int 97, .int 99, .int 107] : List Value).getD j .null)) (A := AS s) (by decide) (nwd hn 495 (by decide +kernel)) (eqI (v := 4) (nwd hn 496 (by decide +kernel))) (fun j hj => by
    match j, hj with
    | 0, _ => exact eqI (v := 112) (nwd hn 497 (by decide +kernel))
    | 1, _ => exact eqI (v := 97) (nwd hn 498 (by decide +kernel))
    | 2, _ => exact eqI (v := 99) (nwd hn 499 (by decide +kernel))
    | 3, _ => exact eqI (v := 107) (nwd hn 500 (by decide +kernel))
    | q + 4, hq => exact absurd hq (by omega)) hAS
  have e := adr_of h1
  have e2 : a = rF b s 1060 := by
    have := h1.symm.trans e
    rw [rF_1060] at this
    cases this
    rfl
  rw [← e2]
  exact ⟨h1, h2⟩
theorem ar_1061 {b : Nat} {s : State} {D : va_G} {t : Nat → ClassId} {f : Value} {x : Nat × Nat × (Nat → Int32)} (hn : GV b s) : Ev b s (.field (.string "FlowGates$Verb" 95) "java/lang/String" "value" "[B") (.ref (rF b s 1061)) ∧ va_T .byte (rF b s 1061) 2 (fun j => sg_tr (tG D t s.heap.size (rF b s) f true x) (([.int 71, .int 70] : List Value).getD j .null)) (AS s) s s.heap := by
  obtain ⟨a, h1, h2⟩ := va_Tof (tm := (.field (.string "FlowGates$Verb" 95) "java/lang/String" "value" "[B")) (ty := .byte) (N := 2) (f := fun j => sg_tr (tG D t s.heap.size (rF b s) f true x) (([.int 71, .int 70] : List Value).getD j .null)) (A := AS s) (by decide) (nwd hn 523 (by decide +kernel)) (eqI (v := 2) (nwd hn 524 (by decide +kernel))) (fun j hj => by
    match j, hj with
    | 0, _ => exact eqI (v := 71) (nwd hn 525 (by decide +kernel))
    | 1, _ => exact eqI (v := 70) (nwd hn 526 (by decide +kernel))
    | q + 2, hq => exact absurd hq (by omega)) hAS
  have e := adr_of h1
  have e2 : a = rF b s 1061 := by
    have := h1.symm.trans e
    rw [rF_1061] at this
    cases this
    rfl
  rw [← e2]
  exact ⟨h1, h2⟩
