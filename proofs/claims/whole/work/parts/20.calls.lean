/-- a call, by the pool's place ix of own -/
def cv_ok (own : String) (ix : Nat) (y' : MI) (n : Nat) : Prop := mi_ok y' ∧ Cond.methodLink own ix y'.1 ∈ wtab ∧ Cond.instanceMethod y'.1 ∈ wtab ∧ Cond.selects y'.1.cls y'.1 y'.1 ∈ lw_tbl ∧ goodWord (Cond.selects y'.1.cls y'.1 y'.1) = true ∧ pn_ok y' n ∧ n + 1 ≤ y'.2.2.1
def cs_ok (own : String) (ix : Nat) (y' : MI) (n : Nat) : Prop := mi_ok y' ∧ Cond.methodLink own ix y'.1 ∈ wtab ∧ Cond.static y'.1 ∈ wtab ∧ pn_ok y' n ∧ n ≤ y'.2.2.1
def csn_ok (own : String) (ix : Nat) (y' : MI) (n : Nat) : Prop := mi_ok y' ∧ (own, ix, y'.1) ∈ ro_nm ∧ Cond.static y'.1 ∈ wtab ∧ pn_ok y' n ∧ n ≤ y'.2.2.1
def ct_ok (own : String) (ix : Nat) (y' : MI) (n : Nat) : Prop := mi_ok y' ∧ Cond.methodLink own ix y'.1 ∈ wtab ∧ Cond.instanceMethod y'.1 ∈ wtab ∧ y'.1.name = "<init>" ∧ y'.2.2.2 = none ∧ pn_ok y' n ∧ n + 1 ≤ y'.2.2.1
def ctn_ok (own : String) (ix : Nat) (y' : MI) (n : Nat) : Prop := mi_ok y' ∧ (own, ix, y'.1) ∈ ro_nm ∧ Cond.instanceMethod y'.1 ∈ wtab ∧ y'.1.name = "<init>" ∧ y'.2.2.2 = none ∧ pn_ok y' n ∧ n + 1 ≤ y'.2.2.1
section ROWS6
variable {G : SG} {y : MI} {d pc : Nat} {L st : List Value} {h : AH} {P : Option Value → AH → Prop}
theorem sw_cv0 {ix b : Nat} {y' : MI} {L0 : List Value} {P' : Option Value → AH → Prop} (hd : decode y.2.1 pc = .ok (.invokevirtual ix, 3)) (hc : cv_ok y.1.cls ix y' 0) (hr : rc_ok h y'.1.cls b) (hM : SW G y' d 0 0 0 L0 [] h P') (kk : ∀ r h', P' r h' → SW G y (d + 1) 0 0 (pc + 3) L (r.toList ++ st) h' P)  (hrm : (st.map fun v => v.category).sum ≤ 8 := by exact Nat.le_of_ble_eq_true rfl) (hL0 : L0 = .ref b :: List.replicate (y'.2.2.1 - 1) (.retAddr 0) := by rfl) : SW G y (d + 1) 0 0 pc L (.ref b :: st) h P :=
  sw_callV (bc := 0) (bs := 0) [] hd hc.1 hc.2.1 hc.2.2.1 hc.2.2.2.1 hc.2.2.2.2.1 hc.2.2.2.2.2.1 rfl hc.2.2.2.2.2.2 (fun v hv => by cases hv) rfl hrm hr hL0 hM kk
theorem sw_cs0 {ix : Nat} {y' : MI} {L0 : List Value} {P' : Option Value → AH → Prop} (hd : decode y.2.1 pc = .ok (.invokestatic ix, 3)) (hc : cs_ok y.1.cls ix y' 0) (hM : SW G y' d 0 0 0 L0 [] h P') (kk : ∀ r h', P' r h' → SW G y (d + 1) 0 0 (pc + 3) L (r.toList ++ st) h' P)  (hrm : (st.map fun v => v.category).sum ≤ 8 := by exact Nat.le_of_ble_eq_true rfl) (hL0 : L0 = List.replicate (y'.2.2.1 - 0) (.retAddr 0) := by rfl) : SW G y (d + 1) 0 0 pc L (st) h P :=
  sw_callS (bc := 0) (bs := 0) [] hd hc.1 hc.2.1 hc.2.2.1 hc.2.2.2.1 rfl hc.2.2.2.2 (fun v hv => by cases hv) rfl hrm hL0 hM kk
theorem sw_csn0 {ix : Nat} {y' : MI} {L0 : List Value} {P' : Option Value → AH → Prop} (hd : decode y.2.1 pc = .ok (.invokestatic ix, 3)) (hc : csn_ok y.1.cls ix y' 0) (hM : SW G y' d 0 0 0 L0 [] h P') (kk : ∀ r h', P' r h' → SW G y (d + 1) 0 0 (pc + 3) L (r.toList ++ st) h' P)  (hrm : (st.map fun v => v.category).sum ≤ 8 := by exact Nat.le_of_ble_eq_true rfl) (hL0 : L0 = List.replicate (y'.2.2.1 - 0) (.retAddr 0) := by rfl) : SW G y (d + 1) 0 0 pc L (st) h P :=
  sw_callSN (bc := 0) (bs := 0) [] hd hc.1 hc.2.1 hc.2.2.1 hc.2.2.2.1 rfl hc.2.2.2.2 (fun v hv => by cases hv) rfl hrm hL0 hM kk
theorem sw_cv1 {ix b : Nat} {y' : MI} {a1 : Value} {L0 : List Value} {P' : Option Value → AH → Prop} (hd : decode y.2.1 pc = .ok (.invokevirtual ix, 3)) (hc : cv_ok y.1.cls ix y' 1) (hr : rc_ok h y'.1.cls b) (hM : SW G y' d 0 0 0 L0 [] h P') (kk : ∀ r h', P' r h' → SW G y (d + 1) 0 0 (pc + 3) L (r.toList ++ st) h' P) (q1 : a1.category = 1 := by rfl) (hrm : (st.map fun v => v.category).sum ≤ 8 := by exact Nat.le_of_ble_eq_true rfl) (hL0 : L0 = .ref b :: a1 :: List.replicate (y'.2.2.1 - 2) (.retAddr 0) := by rfl) : SW G y (d + 1) 0 0 pc L (a1 :: .ref b :: st) h P :=
  sw_callV (bc := 0) (bs := 0) [a1] hd hc.1 hc.2.1 hc.2.2.1 hc.2.2.2.1 hc.2.2.2.2.1 hc.2.2.2.2.2.1 rfl hc.2.2.2.2.2.2 (fun v hv => by simp only [List.mem_cons, List.not_mem_nil, or_false] at hv; rcases hv with rfl <;> assumption) rfl hrm hr hL0 hM kk
theorem sw_cs1 {ix : Nat} {y' : MI} {a1 : Value} {L0 : List Value} {P' : Option Value → AH → Prop} (hd : decode y.2.1 pc = .ok (.invokestatic ix, 3)) (hc : cs_ok y.1.cls ix y' 1) (hM : SW G y' d 0 0 0 L0 [] h P') (kk : ∀ r h', P' r h' → SW G y (d + 1) 0 0 (pc + 3) L (r.toList ++ st) h' P) (q1 : a1.category = 1 := by rfl) (hrm : (st.map fun v => v.category).sum ≤ 8 := by exact Nat.le_of_ble_eq_true rfl) (hL0 : L0 = a1 :: List.replicate (y'.2.2.1 - 1) (.retAddr 0) := by rfl) : SW G y (d + 1) 0 0 pc L (a1 :: st) h P :=
  sw_callS (bc := 0) (bs := 0) [a1] hd hc.1 hc.2.1 hc.2.2.1 hc.2.2.2.1 rfl hc.2.2.2.2 (fun v hv => by simp only [List.mem_cons, List.not_mem_nil, or_false] at hv; rcases hv with rfl <;> assumption) rfl hrm hL0 hM kk
theorem sw_csn1 {ix : Nat} {y' : MI} {a1 : Value} {L0 : List Value} {P' : Option Value → AH → Prop} (hd : decode y.2.1 pc = .ok (.invokestatic ix, 3)) (hc : csn_ok y.1.cls ix y' 1) (hM : SW G y' d 0 0 0 L0 [] h P') (kk : ∀ r h', P' r h' → SW G y (d + 1) 0 0 (pc + 3) L (r.toList ++ st) h' P) (q1 : a1.category = 1 := by rfl) (hrm : (st.map fun v => v.category).sum ≤ 8 := by exact Nat.le_of_ble_eq_true rfl) (hL0 : L0 = a1 :: List.replicate (y'.2.2.1 - 1) (.retAddr 0) := by rfl) : SW G y (d + 1) 0 0 pc L (a1 :: st) h P :=
  sw_callSN (bc := 0) (bs := 0) [a1] hd hc.1 hc.2.1 hc.2.2.1 hc.2.2.2.1 rfl hc.2.2.2.2 (fun v hv => by simp only [List.mem_cons, List.not_mem_nil, or_false] at hv; rcases hv with rfl <;> assumption) rfl hrm hL0 hM kk
theorem sw_cv2 {ix b : Nat} {y' : MI} {a1 a2 : Value} {L0 : List Value} {P' : Option Value → AH → Prop} (hd : decode y.2.1 pc = .ok (.invokevirtual ix, 3)) (hc : cv_ok y.1.cls ix y' 2) (hr : rc_ok h y'.1.cls b) (hM : SW G y' d 0 0 0 L0 [] h P') (kk : ∀ r h', P' r h' → SW G y (d + 1) 0 0 (pc + 3) L (r.toList ++ st) h' P) (q1 : a1.category = 1 := by rfl) (q2 : a2.category = 1 := by rfl) (hrm : (st.map fun v => v.category).sum ≤ 8 := by exact Nat.le_of_ble_eq_true rfl) (hL0 : L0 = .ref b :: a1 :: a2 :: List.replicate (y'.2.2.1 - 3) (.retAddr 0) := by rfl) : SW G y (d + 1) 0 0 pc L (a2 :: a1 :: .ref b :: st) h P :=
  sw_callV (bc := 0) (bs := 0) [a1, a2] hd hc.1 hc.2.1 hc.2.2.1 hc.2.2.2.1 hc.2.2.2.2.1 hc.2.2.2.2.2.1 rfl hc.2.2.2.2.2.2 (fun v hv => by simp only [List.mem_cons, List.not_mem_nil, or_false] at hv; rcases hv with rfl | rfl <;> assumption) rfl hrm hr hL0 hM kk
theorem sw_cs2 {ix : Nat} {y' : MI} {a1 a2 : Value} {L0 : List Value} {P' : Option Value → AH → Prop} (hd : decode y.2.1 pc = .ok (.invokestatic ix, 3)) (hc : cs_ok y.1.cls ix y' 2) (hM : SW G y' d 0 0 0 L0 [] h P') (kk : ∀ r h', P' r h' → SW G y (d + 1) 0 0 (pc + 3) L (r.toList ++ st) h' P) (q1 : a1.category = 1 := by rfl) (q2 : a2.category = 1 := by rfl) (hrm : (st.map fun v => v.category).sum ≤ 8 := by exact Nat.le_of_ble_eq_true rfl) (hL0 : L0 = a1 :: a2 :: List.replicate (y'.2.2.1 - 2) (.retAddr 0) := by rfl) : SW G y (d + 1) 0 0 pc L (a2 :: a1 :: st) h P :=
  sw_callS (bc := 0) (bs := 0) [a1, a2] hd hc.1 hc.2.1 hc.2.2.1 hc.2.2.2.1 rfl hc.2.2.2.2 (fun v hv => by simp only [List.mem_cons, List.not_mem_nil, or_false] at hv; rcases hv with rfl | rfl <;> assumption) rfl hrm hL0 hM kk
theorem sw_csn2 {ix : Nat} {y' : MI} {a1 a2 : Value} {L0 : List Value} {P' : Option Value → AH → Prop} (hd : decode y.2.1 pc = .ok (.invokestatic ix, 3)) (hc : csn_ok y.1.cls ix y' 2) (hM : SW G y' d 0 0 0 L0 [] h P') (kk : ∀ r h', P' r h' → SW G y (d + 1) 0 0 (pc + 3) L (r.toList ++ st) h' P) (q1 : a1.category = 1 := by rfl) (q2 : a2.category = 1 := by rfl) (hrm : (st.map fun v => v.category).sum ≤ 8 := by exact Nat.le_of_ble_eq_true rfl) (hL0 : L0 = a1 :: a2 :: List.replicate (y'.2.2.1 - 2) (.retAddr 0) := by rfl) : SW G y (d + 1) 0 0 pc L (a2 :: a1 :: st) h P :=
  sw_callSN (bc := 0) (bs := 0) [a1, a2] hd hc.1 hc.2.1 hc.2.2.1 hc.2.2.2.1 rfl hc.2.2.2.2 (fun v hv => by simp only [List.mem_cons, List.not_mem_nil, or_false] at hv; rcases hv with rfl | rfl <;> assumption) rfl hrm hL0 hM kk
theorem sw_cv3 {ix b : Nat} {y' : MI} {a1 a2 a3 : Value} {L0 : List Value} {P' : Option Value → AH → Prop} (hd : decode y.2.1 pc = .ok (.invokevirtual ix, 3)) (hc : cv_ok y.1.cls ix y' 3) (hr : rc_ok h y'.1.cls b) (hM : SW G y' d 0 0 0 L0 [] h P') (kk : ∀ r h', P' r h' → SW G y (d + 1) 0 0 (pc + 3) L (r.toList ++ st) h' P) (q1 : a1.category = 1 := by rfl) (q2 : a2.category = 1 := by rfl) (q3 : a3.category = 1 := by rfl) (hrm : (st.map fun v => v.category).sum ≤ 8 := by exact Nat.le_of_ble_eq_true rfl) (hL0 : L0 = .ref b :: a1 :: a2 :: a3 :: List.replicate (y'.2.2.1 - 4) (.retAddr 0) := by rfl) : SW G y (d + 1) 0 0 pc L (a3 :: a2 :: a1 :: .ref b :: st) h P :=
  sw_callV (bc := 0) (bs := 0) [a1, a2, a3] hd hc.1 hc.2.1 hc.2.2.1 hc.2.2.2.1 hc.2.2.2.2.1 hc.2.2.2.2.2.1 rfl hc.2.2.2.2.2.2 (fun v hv => by simp only [List.mem_cons, List.not_mem_nil, or_false] at hv; rcases hv with rfl | rfl | rfl <;> assumption) rfl hrm hr hL0 hM kk
theorem sw_cs3 {ix : Nat} {y' : MI} {a1 a2 a3 : Value} {L0 : List Value} {P' : Option Value → AH → Prop} (hd : decode y.2.1 pc = .ok (.invokestatic ix, 3)) (hc : cs_ok y.1.cls ix y' 3) (hM : SW G y' d 0 0 0 L0 [] h P') (kk : ∀ r h', P' r h' → SW G y (d + 1) 0 0 (pc + 3) L (r.toList ++ st) h' P) (q1 : a1.category = 1 := by rfl) (q2 : a2.category = 1 := by rfl) (q3 : a3.category = 1 := by rfl) (hrm : (st.map fun v => v.category).sum ≤ 8 := by exact Nat.le_of_ble_eq_true rfl) (hL0 : L0 = a1 :: a2 :: a3 :: List.replicate (y'.2.2.1 - 3) (.retAddr 0) := by rfl) : SW G y (d + 1) 0 0 pc L (a3 :: a2 :: a1 :: st) h P :=
  sw_callS (bc := 0) (bs := 0) [a1, a2, a3] hd hc.1 hc.2.1 hc.2.2.1 hc.2.2.2.1 rfl hc.2.2.2.2 (fun v hv => by simp only [List.mem_cons, List.not_mem_nil, or_false] at hv; rcases hv with rfl | rfl | rfl <;> assumption) rfl hrm hL0 hM kk
theorem sw_csn3 {ix : Nat} {y' : MI} {a1 a2 a3 : Value} {L0 : List Value} {P' : Option Value → AH → Prop} (hd : decode y.2.1 pc = .ok (.invokestatic ix, 3)) (hc : csn_ok y.1.cls ix y' 3) (hM : SW G y' d 0 0 0 L0 [] h P') (kk : ∀ r h', P' r h' → SW G y (d + 1) 0 0 (pc + 3) L (r.toList ++ st) h' P) (q1 : a1.category = 1 := by rfl) (q2 : a2.category = 1 := by rfl) (q3 : a3.category = 1 := by rfl) (hrm : (st.map fun v => v.category).sum ≤ 8 := by exact Nat.le_of_ble_eq_true rfl) (hL0 : L0 = a1 :: a2 :: a3 :: List.replicate (y'.2.2.1 - 3) (.retAddr 0) := by rfl) : SW G y (d + 1) 0 0 pc L (a3 :: a2 :: a1 :: st) h P :=
  sw_callSN (bc := 0) (bs := 0) [a1, a2, a3] hd hc.1 hc.2.1 hc.2.2.1 hc.2.2.2.1 rfl hc.2.2.2.2 (fun v hv => by simp only [List.mem_cons, List.not_mem_nil, or_false] at hv; rcases hv with rfl | rfl | rfl <;> assumption) rfl hrm hL0 hM kk
theorem sw_cv4 {ix b : Nat} {y' : MI} {a1 a2 a3 a4 : Value} {L0 : List Value} {P' : Option Value → AH → Prop} (hd : decode y.2.1 pc = .ok (.invokevirtual ix, 3)) (hc : cv_ok y.1.cls ix y' 4) (hr : rc_ok h y'.1.cls b) (hM : SW G y' d 0 0 0 L0 [] h P') (kk : ∀ r h', P' r h' → SW G y (d + 1) 0 0 (pc + 3) L (r.toList ++ st) h' P) (q1 : a1.category = 1 := by rfl) (q2 : a2.category = 1 := by rfl) (q3 : a3.category = 1 := by rfl) (q4 : a4.category = 1 := by rfl) (hrm : (st.map fun v => v.category).sum ≤ 8 := by exact Nat.le_of_ble_eq_true rfl) (hL0 : L0 = .ref b :: a1 :: a2 :: a3 :: a4 :: List.replicate (y'.2.2.1 - 5) (.retAddr 0) := by rfl) : SW G y (d + 1) 0 0 pc L (a4 :: a3 :: a2 :: a1 :: .ref b :: st) h P :=
  sw_callV (bc := 0) (bs := 0) [a1, a2, a3, a4] hd hc.1 hc.2.1 hc.2.2.1 hc.2.2.2.1 hc.2.2.2.2.1 hc.2.2.2.2.2.1 rfl hc.2.2.2.2.2.2 (fun v hv => by simp only [List.mem_cons, List.not_mem_nil, or_false] at hv; rcases hv with rfl | rfl | rfl | rfl <;> assumption) rfl hrm hr hL0 hM kk
theorem sw_cs4 {ix : Nat} {y' : MI} {a1 a2 a3 a4 : Value} {L0 : List Value} {P' : Option Value → AH → Prop} (hd : decode y.2.1 pc = .ok (.invokestatic ix, 3)) (hc : cs_ok y.1.cls ix y' 4) (hM : SW G y' d 0 0 0 L0 [] h P') (kk : ∀ r h', P' r h' → SW G y (d + 1) 0 0 (pc + 3) L (r.toList ++ st) h' P) (q1 : a1.category = 1 := by rfl) (q2 : a2.category = 1 := by rfl) (q3 : a3.category = 1 := by rfl) (q4 : a4.category = 1 := by rfl) (hrm : (st.map fun v => v.category).sum ≤ 8 := by exact Nat.le_of_ble_eq_true rfl) (hL0 : L0 = a1 :: a2 :: a3 :: a4 :: List.replicate (y'.2.2.1 - 4) (.retAddr 0) := by rfl) : SW G y (d + 1) 0 0 pc L (a4 :: a3 :: a2 :: a1 :: st) h P :=
  sw_callS (bc := 0) (bs := 0) [a1, a2, a3, a4] hd hc.1 hc.2.1 hc.2.2.1 hc.2.2.2.1 rfl hc.2.2.2.2 (fun v hv => by simp only [List.mem_cons, List.not_mem_nil, or_false] at hv; rcases hv with rfl | rfl | rfl | rfl <;> assumption) rfl hrm hL0 hM kk
theorem sw_csn4 {ix : Nat} {y' : MI} {a1 a2 a3 a4 : Value} {L0 : List Value} {P' : Option Value → AH → Prop} (hd : decode y.2.1 pc = .ok (.invokestatic ix, 3)) (hc : csn_ok y.1.cls ix y' 4) (hM : SW G y' d 0 0 0 L0 [] h P') (kk : ∀ r h', P' r h' → SW G y (d + 1) 0 0 (pc + 3) L (r.toList ++ st) h' P) (q1 : a1.category = 1 := by rfl) (q2 : a2.category = 1 := by rfl) (q3 : a3.category = 1 := by rfl) (q4 : a4.category = 1 := by rfl) (hrm : (st.map fun v => v.category).sum ≤ 8 := by exact Nat.le_of_ble_eq_true rfl) (hL0 : L0 = a1 :: a2 :: a3 :: a4 :: List.replicate (y'.2.2.1 - 4) (.retAddr 0) := by rfl) : SW G y (d + 1) 0 0 pc L (a4 :: a3 :: a2 :: a1 :: st) h P :=
  sw_callSN (bc := 0) (bs := 0) [a1, a2, a3, a4] hd hc.1 hc.2.1 hc.2.2.1 hc.2.2.2.1 rfl hc.2.2.2.2 (fun v hv => by simp only [List.mem_cons, List.not_mem_nil, or_false] at hv; rcases hv with rfl | rfl | rfl | rfl <;> assumption) rfl hrm hL0 hM kk
theorem sw_cv5 {ix b : Nat} {y' : MI} {a1 a2 a3 a4 a5 : Value} {L0 : List Value} {P' : Option Value → AH → Prop} (hd : decode y.2.1 pc = .ok (.invokevirtual ix, 3)) (hc : cv_ok y.1.cls ix y' 5) (hr : rc_ok h y'.1.cls b) (hM : SW G y' d 0 0 0 L0 [] h P') (kk : ∀ r h', P' r h' → SW G y (d + 1) 0 0 (pc + 3) L (r.toList ++ st) h' P) (q1 : a1.category = 1 := by rfl) (q2 : a2.category = 1 := by rfl) (q3 : a3.category = 1 := by rfl) (q4 : a4.category = 1 := by rfl) (q5 : a5.category = 1 := by rfl) (hrm : (st.map fun v => v.category).sum ≤ 8 := by exact Nat.le_of_ble_eq_true rfl) (hL0 : L0 = .ref b :: a1 :: a2 :: a3 :: a4 :: a5 :: List.replicate (y'.2.2.1 - 6) (.retAddr 0) := by rfl) : SW G y (d + 1) 0 0 pc L (a5 :: a4 :: a3 :: a2 :: a1 :: .ref b :: st) h P :=
  sw_callV (bc := 0) (bs := 0) [a1, a2, a3, a4, a5] hd hc.1 hc.2.1 hc.2.2.1 hc.2.2.2.1 hc.2.2.2.2.1 hc.2.2.2.2.2.1 rfl hc.2.2.2.2.2.2 (fun v hv => by simp only [List.mem_cons, List.not_mem_nil, or_false] at hv; rcases hv with rfl | rfl | rfl | rfl | rfl <;> assumption) rfl hrm hr hL0 hM kk
theorem sw_cs5 {ix : Nat} {y' : MI} {a1 a2 a3 a4 a5 : Value} {L0 : List Value} {P' : Option Value → AH → Prop} (hd : decode y.2.1 pc = .ok (.invokestatic ix, 3)) (hc : cs_ok y.1.cls ix y' 5) (hM : SW G y' d 0 0 0 L0 [] h P') (kk : ∀ r h', P' r h' → SW G y (d + 1) 0 0 (pc + 3) L (r.toList ++ st) h' P) (q1 : a1.category = 1 := by rfl) (q2 : a2.category = 1 := by rfl) (q3 : a3.category = 1 := by rfl) (q4 : a4.category = 1 := by rfl) (q5 : a5.category = 1 := by rfl) (hrm : (st.map fun v => v.category).sum ≤ 8 := by exact Nat.le_of_ble_eq_true rfl) (hL0 : L0 = a1 :: a2 :: a3 :: a4 :: a5 :: List.replicate (y'.2.2.1 - 5) (.retAddr 0) := by rfl) : SW G y (d + 1) 0 0 pc L (a5 :: a4 :: a3 :: a2 :: a1 :: st) h P :=
  sw_callS (bc := 0) (bs := 0) [a1, a2, a3, a4, a5] hd hc.1 hc.2.1 hc.2.2.1 hc.2.2.2.1 rfl hc.2.2.2.2 (fun v hv => by simp only [List.mem_cons, List.not_mem_nil, or_false] at hv; rcases hv with rfl | rfl | rfl | rfl | rfl <;> assumption) rfl hrm hL0 hM kk
theorem sw_csn5 {ix : Nat} {y' : MI} {a1 a2 a3 a4 a5 : Value} {L0 : List Value} {P' : Option Value → AH → Prop} (hd : decode y.2.1 pc = .ok (.invokestatic ix, 3)) (hc : csn_ok y.1.cls ix y' 5) (hM : SW G y' d 0 0 0 L0 [] h P') (kk : ∀ r h', P' r h' → SW G y (d + 1) 0 0 (pc + 3) L (r.toList ++ st) h' P) (q1 : a1.category = 1 := by rfl) (q2 : a2.category = 1 := by rfl) (q3 : a3.category = 1 := by rfl) (q4 : a4.category = 1 := by rfl) (q5 : a5.category = 1 := by rfl) (hrm : (st.map fun v => v.category).sum ≤ 8 := by exact Nat.le_of_ble_eq_true rfl) (hL0 : L0 = a1 :: a2 :: a3 :: a4 :: a5 :: List.replicate (y'.2.2.1 - 5) (.retAddr 0) := by rfl) : SW G y (d + 1) 0 0 pc L (a5 :: a4 :: a3 :: a2 :: a1 :: st) h P :=
  sw_callSN (bc := 0) (bs := 0) [a1, a2, a3, a4, a5] hd hc.1 hc.2.1 hc.2.2.1 hc.2.2.2.1 rfl hc.2.2.2.2 (fun v hv => by simp only [List.mem_cons, List.not_mem_nil, or_false] at hv; rcases hv with rfl | rfl | rfl | rfl | rfl <;> assumption) rfl hrm hL0 hM kk
end ROWS6
theorem ct_L_15 : ct_ok RL 15 mX8_init 0 := ⟨mX8_init_ok, w_26, w_27, rfl, rfl, by unfold pn_ok; decide +kernel, by decide⟩
theorem ct_X8_25 : ct_ok RX8 25 mX7_init 1 := ⟨mX7_init_ok, w_76, w_77, rfl, rfl, by unfold pn_ok; decide +kernel, by decide⟩
theorem ct_X8_37 : ct_ok RX8 37 mX5_init 1 := ⟨mX5_init_ok, w_173, w_174, rfl, rfl, by unfold pn_ok; decide +kernel, by decide⟩
theorem cv_L_19 : cv_ok RL 19 mX8_feed 5 := ⟨mX8_feed_ok, w_220, w_221, (List.mem_filter.mp w_222).1, by decide +kernel, by unfold pn_ok; decide +kernel, by decide⟩
theorem cv_X8_48 : cv_ok RX8 48 mX4_add 1 := ⟨mX4_add_ok, w_224, w_225, (List.mem_filter.mp w_226).1, by decide +kernel, by unfold pn_ok; decide +kernel, by decide⟩
theorem cv_L_24 : cv_ok RL 24 mX8_end 1 := ⟨mX8_end_ok, w_228, w_229, (List.mem_filter.mp w_230).1, by decide +kernel, by unfold pn_ok; decide +kernel, by decide⟩
theorem cv_L_29 : cv_ok RL 29 mX8_tell 0 := ⟨mX8_tell_ok, w_232, w_233, (List.mem_filter.mp w_234).1, by decide +kernel, by unfold pn_ok; decide +kernel, by decide⟩
theorem cv_X8_52 : cv_ok RX8 52 mX7_copyFrom 1 := ⟨mX7_copyFrom_ok, w_236, w_237, (List.mem_filter.mp w_238).1, by decide +kernel, by unfold pn_ok; decide +kernel, by decide⟩
theorem cv_X7_51 : cv_ok RX7 51 mX1_copyFrom 1 := ⟨mX1_copyFrom_ok, w_243, w_244, (List.mem_filter.mp w_245).1, by decide +kernel, by unfold pn_ok; decide +kernel, by decide⟩
theorem cv_X1_35 : cv_ok RX1 35 mX2_copyFrom 1 := ⟨mX2_copyFrom_ok, w_248, w_249, (List.mem_filter.mp w_250).1, by decide +kernel, by unfold pn_ok; decide +kernel, by decide⟩
theorem cv_X8_56 : cv_ok RX8 56 mX5_begin 0 := ⟨mX5_begin_ok, w_253, w_254, (List.mem_filter.mp w_255).1, by decide +kernel, by unfold pn_ok; decide +kernel, by decide⟩
theorem cv_X5_41 : cv_ok RX5 41 mX5_advance 0 := ⟨mX5_advance_ok, w_257, w_259, ws_0, by decide +kernel, by unfold pn_ok; decide +kernel, by decide⟩
theorem cv_X5_134 : cv_ok RX5 134 mX5_kindAt 1 := ⟨mX5_kindAt_ok, w_261, w_263, ws_1, by decide +kernel, by unfold pn_ok; decide +kernel, by decide⟩
theorem cv_X8_59 : cv_ok RX8 59 mX5_hasMore 0 := ⟨mX5_hasMore_ok, w_265, w_266, (List.mem_filter.mp w_267).1, by decide +kernel, by unfold pn_ok; decide +kernel, by decide⟩
theorem cv_X8_63 : cv_ok RX8 63 mX5_reads 1 := ⟨mX5_reads_ok, w_269, w_270, (List.mem_filter.mp w_271).1, by decide +kernel, by unfold pn_ok; decide +kernel, by decide⟩
theorem cv_X5_44 : cv_ok RX5 44 mX5_takesVerb 0 := ⟨mX5_takesVerb_ok, w_273, w_275, ws_2, by decide +kernel, by unfold pn_ok; decide +kernel, by decide⟩
theorem cv_X5_85 : cv_ok RX5 85 mX5_takes 1 := ⟨mX5_takes_ok, w_279, w_281, ws_3, by decide +kernel, by unfold pn_ok; decide +kernel, by decide⟩
theorem cv_X5_64 : cv_ok RX5 64 mJ0_length_8abf5 0 := ⟨mJ0_length_8abf5_ok, w_283, w_284, (List.mem_filter.mp w_285).1, by decide +kernel, by unfold pn_ok; decide +kernel, by decide⟩
theorem cv_J0_335 : cv_ok RJ0 335 mJ0_coder_7d493 0 := ⟨mJ0_coder_7d493_ok, w_287, w_288, (List.mem_filter.mp w_289).1, by decide +kernel, by unfold pn_ok; decide +kernel, by decide⟩
theorem cv_X5_70 : cv_ok RX5 70 mJ0_charAt_5068e 1 := ⟨mJ0_charAt_5068e_ok, w_293, w_294, (List.mem_filter.mp w_295).1, by decide +kernel, by unfold pn_ok; decide +kernel, by decide⟩
theorem cv_J0_492 : cv_ok RJ0 492 mJ0_isLatin1_aae02 0 := ⟨mJ0_isLatin1_aae02_ok, w_297, w_298, (List.mem_filter.mp w_299).1, by decide +kernel, by unfold pn_ok; decide +kernel, by decide⟩
theorem cs_J0_495 : cs_ok RJ0 495 mJ1_charAt_3b067 2 := ⟨mJ1_charAt_3b067_ok, w_301, w_302, by unfold pn_ok; decide +kernel, by decide⟩
theorem cs_J1_9 : cs_ok RJ1 9 mJ0_checkIndex_df160 2 := ⟨mJ0_checkIndex_df160_ok, w_304, w_305, by unfold pn_ok; decide +kernel, by decide⟩
theorem cs_J0_1059 : cs_ok RJ0 1059 mJ3_checkIndex_8e157 3 := ⟨mJ3_checkIndex_8e157_ok, w_309, w_310, by unfold pn_ok; decide +kernel, by decide⟩
theorem cs_J0_498 : cs_ok RJ0 498 mJ2_charAt_3b067 2 := ⟨mJ2_charAt_3b067_ok, w_312, w_313, by unfold pn_ok; decide +kernel, by decide⟩
theorem cs_J2_67 : cs_ok RJ2 67 mJ2_checkIndex_2214a 2 := ⟨mJ2_checkIndex_2214a_ok, w_315, w_316, by unfold pn_ok; decide +kernel, by decide⟩
theorem cs_J2_48 : cs_ok RJ2 48 mJ2_length_9d52b 1 := ⟨mJ2_length_9d52b_ok, w_318, w_319, by unfold pn_ok; decide +kernel, by decide⟩
theorem cs_J2_414 : cs_ok RJ2 414 mJ0_checkIndex_df160 2 := ⟨mJ0_checkIndex_df160_ok, w_321, w_305, by unfold pn_ok; decide +kernel, by decide⟩
theorem cs_J2_71 : cs_ok RJ2 71 mJ2_getChar_3b067 2 := ⟨mJ2_getChar_3b067_ok, w_322, w_323, by unfold pn_ok; decide +kernel, by decide⟩
theorem cv_X5_48 : cv_ok RX5 48 mX5_fail 2 := ⟨mX5_fail_ok, w_331, w_333, ws_4, by decide +kernel, by unfold pn_ok; decide +kernel, by decide⟩
theorem cv_X5_74 : cv_ok RX5 74 mX5_readNext 2 := ⟨mX5_readNext_ok, w_337, w_339, ws_5, by decide +kernel, by unfold pn_ok; decide +kernel, by decide⟩
theorem cv_X5_89 : cv_ok RX5 89 mX5_readHow 0 := ⟨mX5_readHow_ok, w_341, w_343, ws_6, by decide +kernel, by unfold pn_ok; decide +kernel, by decide⟩
theorem cv_X5_94 : cv_ok RX5 94 mX5_numberHere 0 := ⟨mX5_numberHere_ok, w_349, w_351, ws_7, by decide +kernel, by unfold pn_ok; decide +kernel, by decide⟩
theorem cs_X5_97 : cs_ok RX5 97 mX5_canBe 3 := ⟨mX5_canBe_ok, w_353, w_354, by unfold pn_ok; decide +kernel, by decide⟩
theorem cv_X5_118 : cv_ok RX5 118 mX7_hasKey 1 := ⟨mX7_hasKey_ok, w_361, w_362, (List.mem_filter.mp w_363).1, by decide +kernel, by unfold pn_ok; decide +kernel, by decide⟩
theorem cv_X5_125 : cv_ok RX5 125 mX7_isBackend 1 := ⟨mX7_isBackend_ok, w_368, w_369, (List.mem_filter.mp w_370).1, by decide +kernel, by unfold pn_ok; decide +kernel, by decide⟩
theorem cs_X8_92 : cs_ok RX8 92 mX8_isWithin 3 := ⟨mX8_isWithin_ok, w_375, w_366, by unfold pn_ok; decide +kernel, by decide⟩
theorem cv_X8_75 : cv_ok RX8 75 mX7_perform 2 := ⟨mX7_perform_ok, w_379, w_380, (List.mem_filter.mp w_381).1, by decide +kernel, by unfold pn_ok; decide +kernel, by decide⟩
theorem cv_X7_123 : cv_ok RX7 123 mX7_resize 1 := ⟨mX7_resize_ok, w_391, w_392, (List.mem_filter.mp w_393).1, by decide +kernel, by unfold pn_ok; decide +kernel, by decide⟩
theorem cv_X7_126 : cv_ok RX7 126 mX7_addBackend 2 := ⟨mX7_addBackend_ok, w_395, w_396, (List.mem_filter.mp w_397).1, by decide +kernel, by unfold pn_ok; decide +kernel, by decide⟩
theorem cv_X7_59 : cv_ok RX7 59 mX7_show 3 := ⟨mX7_show_ok, w_399, w_400, (List.mem_filter.mp w_401).1, by decide +kernel, by unfold pn_ok; decide +kernel, by decide⟩
theorem cv_X7_130 : cv_ok RX7 130 mX7_passTicks 1 := ⟨mX7_passTicks_ok, w_403, w_404, (List.mem_filter.mp w_405).1, by decide +kernel, by unfold pn_ok; decide +kernel, by decide⟩
theorem cv_X7_76 : cv_ok RX7 76 mX7_forgetAged 0 := ⟨mX7_forgetAged_ok, w_407, w_409, ws_8, by decide +kernel, by unfold pn_ok; decide +kernel, by decide⟩
theorem cv_X7_79 : cv_ok RX7 79 mX2_dropBefore 1 := ⟨mX2_dropBefore_ok, w_411, w_412, (List.mem_filter.mp w_413).1, by decide +kernel, by unfold pn_ok; decide +kernel, by decide⟩
theorem cv_X2_50 : cv_ok RX2 50 mX2_drop 1 := ⟨mX2_drop_ok, w_415, w_416, (List.mem_filter.mp w_417).1, by decide +kernel, by unfold pn_ok; decide +kernel, by decide⟩
theorem cv_X2_42 : cv_ok RX2 42 mX2_move 2 := ⟨mX2_move_ok, w_419, w_421, ws_9, by decide +kernel, by unfold pn_ok; decide +kernel, by decide⟩
theorem cv_X7_133 : cv_ok RX7 133 mX7_changeRoom 1 := ⟨mX7_changeRoom_ok, w_423, w_424, (List.mem_filter.mp w_425).1, by decide +kernel, by unfold pn_ok; decide +kernel, by decide⟩
theorem cv_X7_70 : cv_ok RX7 70 mX2_shrinkTo 1 := ⟨mX2_shrinkTo_ok, w_427, w_428, (List.mem_filter.mp w_429).1, by decide +kernel, by unfold pn_ok; decide +kernel, by decide⟩
theorem cv_X2_46 : cv_ok RX2 46 mX2_eldest 0 := ⟨mX2_eldest_ok, w_431, w_433, ws_10, by decide +kernel, by unfold pn_ok; decide +kernel, by decide⟩
theorem cv_X7_136 : cv_ok RX7 136 mX7_changeAge 1 := ⟨mX7_changeAge_ok, w_435, w_436, (List.mem_filter.mp w_437).1, by decide +kernel, by unfold pn_ok; decide +kernel, by decide⟩
theorem cv_X7_139 : cv_ok RX7 139 mX7_send 2 := ⟨mX7_send_ok, w_439, w_440, (List.mem_filter.mp w_441).1, by decide +kernel, by unfold pn_ok; decide +kernel, by decide⟩
theorem cv_X7_82 : cv_ok RX7 82 mX1_knownGoal 1 := ⟨mX1_knownGoal_ok, w_443, w_444, (List.mem_filter.mp w_445).1, by decide +kernel, by unfold pn_ok; decide +kernel, by decide⟩
theorem cv_X1_39 : cv_ok RX1 39 mX2_find 1 := ⟨mX2_find_ok, w_447, w_448, (List.mem_filter.mp w_449).1, by decide +kernel, by unfold pn_ok; decide +kernel, by decide⟩
theorem cv_X7_91 : cv_ok RX7 91 mX1_ups 0 := ⟨mX1_ups_ok, w_451, w_452, (List.mem_filter.mp w_453).1, by decide +kernel, by unfold pn_ok; decide +kernel, by decide⟩
theorem cv_X7_95 : cv_ok RX7 95 mX3_make 4 := ⟨mX3_make_ok, w_455, w_456, (List.mem_filter.mp w_457).1, by decide +kernel, by unfold pn_ok; decide +kernel, by decide⟩
theorem cv_X3_27 : cv_ok RX3 27 mX3_start 4 := ⟨mX3_start_ok, w_459, w_461, ws_11, by decide +kernel, by unfold pn_ok; decide +kernel, by decide⟩
theorem cs_X8_276 : cs_ok RX8 276 mX8_mix 2 := ⟨mX8_mix_ok, w_470, w_471, by unfold pn_ok; decide +kernel, by decide⟩
theorem cs_X8_192 : cs_ok RX8 192 mX8_modulo 2 := ⟨mX8_modulo_ok, w_474, w_475, by unfold pn_ok; decide +kernel, by decide⟩
theorem cs_X3_58 : cs_ok RX3 58 mJ9_max_7cf53 2 := ⟨mJ9_max_7cf53_ok, w_481, w_482, by unfold pn_ok; decide +kernel, by decide⟩
theorem cv_X3_44 : cv_ok RX3 44 mX3_take 3 := ⟨mX3_take_ok, w_484, w_486, ws_12, by decide +kernel, by unfold pn_ok; decide +kernel, by decide⟩
theorem cv_X7_103 : cv_ok RX7 103 mX2_put 4 := ⟨mX2_put_ok, w_493, w_494, (List.mem_filter.mp w_495).1, by decide +kernel, by unfold pn_ok; decide +kernel, by decide⟩
theorem cv_X2_31 : cv_ok RX2 31 mX2_find 1 := ⟨mX2_find_ok, w_497, w_448, (List.mem_filter.mp w_449).1, by decide +kernel, by unfold pn_ok; decide +kernel, by decide⟩
theorem cv_X2_35 : cv_ok RX2 35 mX2_shrinkTo 1 := ⟨mX2_shrinkTo_ok, w_498, w_428, (List.mem_filter.mp w_429).1, by decide +kernel, by unfold pn_ok; decide +kernel, by decide⟩
theorem cv_X2_39 : cv_ok RX2 39 mX2_openAt 1 := ⟨mX2_openAt_ok, w_499, w_501, ws_13, by decide +kernel, by unfold pn_ok; decide +kernel, by decide⟩
theorem cv_X7_107 : cv_ok RX7 107 mX2_find 1 := ⟨mX2_find_ok, w_503, w_448, (List.mem_filter.mp w_449).1, by decide +kernel, by unfold pn_ok; decide +kernel, by decide⟩
theorem cv_X7_110 : cv_ok RX7 110 mX2_drop 1 := ⟨mX2_drop_ok, w_504, w_416, (List.mem_filter.mp w_417).1, by decide +kernel, by unfold pn_ok; decide +kernel, by decide⟩
theorem cv_L_34 : cv_ok RL 34 mX8_fault 0 := ⟨mX8_fault_ok, w_506, w_507, (List.mem_filter.mp w_508).1, by decide +kernel, by unfold pn_ok; decide +kernel, by decide⟩
theorem cv_L_38 : cv_ok RL 38 mX8_size 1 := ⟨mX8_size_ok, w_510, w_511, (List.mem_filter.mp w_512).1, by decide +kernel, by unfold pn_ok; decide +kernel, by decide⟩
theorem cs_X8_85 : cs_ok RX8 85 mX8_isSize 1 := ⟨mX8_isSize_ok, w_514, w_357, by unfold pn_ok; decide +kernel, by decide⟩
theorem cv_X8_89 : cv_ok RX8 89 mX7_resize 1 := ⟨mX7_resize_ok, w_515, w_392, (List.mem_filter.mp w_393).1, by decide +kernel, by unfold pn_ok; decide +kernel, by decide⟩
theorem cv_L_42 : cv_ok RL 42 mX8_back 2 := ⟨mX8_back_ok, w_516, w_517, (List.mem_filter.mp w_518).1, by decide +kernel, by unfold pn_ok; decide +kernel, by decide⟩
theorem cv_X8_96 : cv_ok RX8 96 mX7_hasKey 1 := ⟨mX7_hasKey_ok, w_520, w_362, (List.mem_filter.mp w_363).1, by decide +kernel, by unfold pn_ok; decide +kernel, by decide⟩
theorem cv_X8_102 : cv_ok RX8 102 mX7_addBackend 2 := ⟨mX7_addBackend_ok, w_521, w_396, (List.mem_filter.mp w_397).1, by decide +kernel, by unfold pn_ok; decide +kernel, by decide⟩
theorem cv_L_46 : cv_ok RL 46 mX8_weigh 2 := ⟨mX8_weigh_ok, w_522, w_523, (List.mem_filter.mp w_524).1, by decide +kernel, by unfold pn_ok; decide +kernel, by decide⟩
theorem cv_X8_106 : cv_ok RX8 106 mX7_isBackend 1 := ⟨mX7_isBackend_ok, w_526, w_369, (List.mem_filter.mp w_370).1, by decide +kernel, by unfold pn_ok; decide +kernel, by decide⟩
theorem cv_L_51 : cv_ok RL 51 mX8_see 3 := ⟨mX8_see_ok, w_527, w_528, (List.mem_filter.mp w_529).1, by decide +kernel, by unfold pn_ok; decide +kernel, by decide⟩
theorem cs_X8_112 : cs_ok RX8 112 mX8_isGate 1 := ⟨mX8_isGate_ok, w_531, w_373, by unfold pn_ok; decide +kernel, by decide⟩
theorem cs_X8_115 : cs_ok RX8 115 mX8_isState 1 := ⟨mX8_isState_ok, w_532, w_533, by unfold pn_ok; decide +kernel, by decide⟩
theorem cv_X8_118 : cv_ok RX8 118 mX7_show 3 := ⟨mX7_show_ok, w_535, w_400, (List.mem_filter.mp w_401).1, by decide +kernel, by unfold pn_ok; decide +kernel, by decide⟩
theorem cv_L_56 : cv_ok RL 56 mX8_set 2 := ⟨mX8_set_ok, w_536, w_537, (List.mem_filter.mp w_538).1, by decide +kernel, by unfold pn_ok; decide +kernel, by decide⟩
theorem cv_X8_125 : cv_ok RX8 125 mX7_changeRoom 1 := ⟨mX7_changeRoom_ok, w_540, w_424, (List.mem_filter.mp w_425).1, by decide +kernel, by unfold pn_ok; decide +kernel, by decide⟩
theorem cv_X8_131 : cv_ok RX8 131 mX7_changeAge 1 := ⟨mX7_changeAge_ok, w_541, w_436, (List.mem_filter.mp w_437).1, by decide +kernel, by unfold pn_ok; decide +kernel, by decide⟩
theorem cv_L_60 : cv_ok RL 60 mX8_tick 1 := ⟨mX8_tick_ok, w_542, w_543, (List.mem_filter.mp w_544).1, by decide +kernel, by unfold pn_ok; decide +kernel, by decide⟩
theorem cv_X8_134 : cv_ok RX8 134 mX7_passTicks 1 := ⟨mX7_passTicks_ok, w_546, w_404, (List.mem_filter.mp w_405).1, by decide +kernel, by unfold pn_ok; decide +kernel, by decide⟩
theorem cv_L_65 : cv_ok RL 65 mX8_pack 2 := ⟨mX8_pack_ok, w_547, w_548, (List.mem_filter.mp w_549).1, by decide +kernel, by unfold pn_ok; decide +kernel, by decide⟩
theorem cs_X8_140 : cs_ok RX8 140 mX8_isFlow 1 := ⟨mX8_isFlow_ok, w_551, w_377, by unfold pn_ok; decide +kernel, by decide⟩
theorem cv_X8_143 : cv_ok RX8 143 mX7_send 2 := ⟨mX7_send_ok, w_552, w_440, (List.mem_filter.mp w_441).1, by decide +kernel, by unfold pn_ok; decide +kernel, by decide⟩
theorem cv_L_69 : cv_ok RL 69 mX8_keep 1 := ⟨mX8_keep_ok, w_553, w_554, (List.mem_filter.mp w_555).1, by decide +kernel, by unfold pn_ok; decide +kernel, by decide⟩
theorem cv_X8_156 : cv_ok RX8 156 mX1_ups 0 := ⟨mX1_ups_ok, w_557, w_452, (List.mem_filter.mp w_453).1, by decide +kernel, by unfold pn_ok; decide +kernel, by decide⟩
theorem cv_X8_160 : cv_ok RX8 160 mX8_makeTable 2 := ⟨mX8_makeTable_ok, w_558, w_560, ws_14, by decide +kernel, by unfold pn_ok; decide +kernel, by decide⟩
theorem cv_X8_260 : cv_ok RX8 260 mX3_make 4 := ⟨mX3_make_ok, w_562, w_456, (List.mem_filter.mp w_457).1, by decide +kernel, by unfold pn_ok; decide +kernel, by decide⟩
theorem cv_L_73 : cv_ok RL 73 mX8_count 1 := ⟨mX8_count_ok, w_563, w_564, (List.mem_filter.mp w_565).1, by decide +kernel, by unfold pn_ok; decide +kernel, by decide⟩
theorem cv_L_86 : cv_ok RL 86 mX8_slot 2 := ⟨mX8_slot_ok, w_567, w_568, (List.mem_filter.mp w_569).1, by decide +kernel, by unfold pn_ok; decide +kernel, by decide⟩
theorem cv_X8_189 : cv_ok RX8 189 mX7_isSlot 1 := ⟨mX7_isSlot_ok, w_571, w_572, (List.mem_filter.mp w_573).1, by decide +kernel, by unfold pn_ok; decide +kernel, by decide⟩
theorem cs_X8_181 : cs_ok RX8 181 mX8_offsetOf 2 := ⟨mX8_offsetOf_ok, w_575, w_467, by unfold pn_ok; decide +kernel, by decide⟩
theorem cs_X8_184 : cs_ok RX8 184 mX8_skipOf 2 := ⟨mX8_skipOf_ok, w_576, w_478, by unfold pn_ok; decide +kernel, by decide⟩
theorem cv_L_90 : cv_ok RL 90 mX8_table 2 := ⟨mX8_table_ok, w_577, w_578, (List.mem_filter.mp w_579).1, by decide +kernel, by unfold pn_ok; decide +kernel, by decide⟩
theorem cv_L_94 : cv_ok RL 94 mX8_share 2 := ⟨mX8_share_ok, w_581, w_582, (List.mem_filter.mp w_583).1, by decide +kernel, by unfold pn_ok; decide +kernel, by decide⟩
theorem cs_X8_198 : cs_ok RX8 198 mX8_slotsOf 3 := ⟨mX8_slotsOf_ok, w_585, w_586, by unfold pn_ok; decide +kernel, by decide⟩
theorem cv_L_98 : cv_ok RL 98 mX8_shareBits 2 := ⟨mX8_shareBits_ok, w_588, w_589, (List.mem_filter.mp w_590).1, by decide +kernel, by unfold pn_ok; decide +kernel, by decide⟩
theorem cv_X8_202 : cv_ok RX8 202 mX8_share 2 := ⟨mX8_share_ok, w_592, w_582, (List.mem_filter.mp w_583).1, by decide +kernel, by unfold pn_ok; decide +kernel, by decide⟩
theorem cs_X8_205 : cs_ok RX8 205 mX8_bitsOf 1 := ⟨mX8_bitsOf_ok, w_593, w_594, by unfold pn_ok; decide +kernel, by decide⟩
theorem cv_L_102 : cv_ok RL 102 mX8_uneven 1 := ⟨mX8_uneven_ok, w_598, w_599, (List.mem_filter.mp w_600).1, by decide +kernel, by unfold pn_ok; decide +kernel, by decide⟩
theorem cv_X8_209 : cv_ok RX8 209 mX8_unevenAt 2 := ⟨mX8_unevenAt_ok, w_602, w_604, ws_15, by decide +kernel, by unfold pn_ok; decide +kernel, by decide⟩
theorem cs_X8_222 : cs_ok RX8 222 mX8_isAmong 2 := ⟨mX8_isAmong_ok, w_606, w_464, by unfold pn_ok; decide +kernel, by decide⟩
theorem cs_X8_264 : cs_ok RX8 264 mJ9_abs_0f7a4 1 := ⟨mJ9_abs_0f7a4_ok, w_607, w_608, by unfold pn_ok; decide +kernel, by decide⟩
theorem cs_X8_269 : cs_ok RX8 269 mJ9_max_7cf53 2 := ⟨mJ9_max_7cf53_ok, w_610, w_482, by unfold pn_ok; decide +kernel, by decide⟩
theorem cv_L_106 : cv_ok RL 106 mX8_evenest 1 := ⟨mX8_evenest_ok, w_611, w_612, (List.mem_filter.mp w_613).1, by decide +kernel, by unfold pn_ok; decide +kernel, by decide⟩
theorem cv_L_110 : cv_ok RL 110 mX8_changed 2 := ⟨mX8_changed_ok, w_615, w_616, (List.mem_filter.mp w_617).1, by decide +kernel, by unfold pn_ok; decide +kernel, by decide⟩
theorem cv_X8_215 : cv_ok RX8 215 mX8_changes 4 := ⟨mX8_changes_ok, w_619, w_621, ws_16, by decide +kernel, by unfold pn_ok; decide +kernel, by decide⟩
theorem cv_L_114 : cv_ok RL 114 mX8_alike 2 := ⟨mX8_alike_ok, w_623, w_624, (List.mem_filter.mp w_625).1, by decide +kernel, by unfold pn_ok; decide +kernel, by decide⟩
theorem cv_L_118 : cv_ok RL 118 mX8_were 4 := ⟨mX8_were_ok, w_627, w_628, (List.mem_filter.mp w_629).1, by decide +kernel, by unfold pn_ok; decide +kernel, by decide⟩
theorem cv_L_123 : cv_ok RL 123 mX8_roughest 1 := ⟨mX8_roughest_ok, w_631, w_632, (List.mem_filter.mp w_633).1, by decide +kernel, by unfold pn_ok; decide +kernel, by decide⟩
theorem cv_L_127 : cv_ok RL 127 mX8_flow 1 := ⟨mX8_flow_ok, w_635, w_636, (List.mem_filter.mp w_637).1, by decide +kernel, by unfold pn_ok; decide +kernel, by decide⟩
theorem cs_X8_226 : cs_ok RX8 226 mX8_slotOfFlow 2 := ⟨mX8_slotOfFlow_ok, w_639, w_490, by unfold pn_ok; decide +kernel, by decide⟩
theorem cv_L_131 : cv_ok RL 131 mX8_remembers 3 := ⟨mX8_remembers_ok, w_640, w_641, (List.mem_filter.mp w_642).1, by decide +kernel, by unfold pn_ok; decide +kernel, by decide⟩
theorem cv_X8_233 : cv_ok RX8 233 mX2_find 1 := ⟨mX2_find_ok, w_644, w_448, (List.mem_filter.mp w_449).1, by decide +kernel, by unfold pn_ok; decide +kernel, by decide⟩
theorem cv_L_135 : cv_ok RL 135 mX8_flows 2 := ⟨mX8_flows_ok, w_645, w_646, (List.mem_filter.mp w_647).1, by decide +kernel, by unfold pn_ok; decide +kernel, by decide⟩
theorem cv_X8_248 : cv_ok RX8 248 mX2_countTo 1 := ⟨mX2_countTo_ok, w_649, w_650, (List.mem_filter.mp w_651).1, by decide +kernel, by unfold pn_ok; decide +kernel, by decide⟩
theorem cv_L_139 : cv_ok RL 139 mX8_flowAt 2 := ⟨mX8_flowAt_ok, w_653, w_654, (List.mem_filter.mp w_655).1, by decide +kernel, by unfold pn_ok; decide +kernel, by decide⟩
theorem cv_L_143 : cv_ok RL 143 mX8_astray 2 := ⟨mX8_astray_ok, w_657, w_658, (List.mem_filter.mp w_659).1, by decide +kernel, by unfold pn_ok; decide +kernel, by decide⟩
theorem cv_X8_254 : cv_ok RX8 254 mX1_knownGoal 1 := ⟨mX1_knownGoal_ok, w_661, w_444, (List.mem_filter.mp w_445).1, by decide +kernel, by unfold pn_ok; decide +kernel, by decide⟩
theorem cv_L_147 : cv_ok RL 147 mX8_idle 2 := ⟨mX8_idle_ok, w_662, w_663, (List.mem_filter.mp w_664).1, by decide +kernel, by unfold pn_ok; decide +kernel, by decide⟩
theorem cv_X8_257 : cv_ok RX8 257 mX2_latestTo 1 := ⟨mX2_latestTo_ok, w_666, w_667, (List.mem_filter.mp w_668).1, by decide +kernel, by unfold pn_ok; decide +kernel, by decide⟩
theorem cs_X2_53 : cs_ok RX2 53 mJ9_max_7cf53 2 := ⟨mJ9_max_7cf53_ok, w_670, w_482, by unfold pn_ok; decide +kernel, by decide⟩
theorem cv_L_7 : cv_ok RL 7 mX8_of 2 := ⟨mX8_of_ok, w_675, w_676, (List.mem_filter.mp w_677).1, by decide +kernel, by unfold pn_ok; decide +kernel, by decide⟩
theorem ct_L_18 : ct_ok RL 18 mX9_init 0 := ⟨mX9_init_ok, w_747, w_748, rfl, rfl, by unfold pn_ok; decide +kernel, by decide⟩
theorem cv_L_83 : cv_ok RL 83 mX9_thrown 0 := ⟨mX9_thrown_ok, w_804, w_805, (List.mem_filter.mp w_806).1, by decide +kernel, by unfold pn_ok; decide +kernel, by decide⟩
theorem cv_L_41 : cv_ok RL 41 mX9_size 1 := ⟨mX9_size_ok, w_808, w_809, (List.mem_filter.mp w_810).1, by decide +kernel, by unfold pn_ok; decide +kernel, by decide⟩
theorem cs_X9_109 : cs_ok RX9 109 mX9_isPrime 1 := ⟨mX9_isPrime_ok, w_812, w_813, by unfold pn_ok; decide +kernel, by decide⟩
theorem cv_X9_113 : cv_ok RX9 113 mX9_sizes 1 := ⟨mX9_sizes_ok, w_815, w_817, ws_18, by decide +kernel, by unfold pn_ok; decide +kernel, by decide⟩
theorem cv_L_45 : cv_ok RL 45 mX9_back 2 := ⟨mX9_back_ok, w_819, w_820, (List.mem_filter.mp w_821).1, by decide +kernel, by unfold pn_ok; decide +kernel, by decide⟩
theorem cs_X9_39 : cs_ok RX9 39 mX9_in 3 := ⟨mX9_in_ok, w_823, w_824, by unfold pn_ok; decide +kernel, by decide⟩
theorem cv_X9_116 : cv_ok RX9 116 mX9_isKey 1 := ⟨mX9_isKey_ok, w_826, w_828, ws_19, by decide +kernel, by unfold pn_ok; decide +kernel, by decide⟩
theorem cv_X9_119 : cv_ok RX9 119 mX9_backs 2 := ⟨mX9_backs_ok, w_830, w_832, ws_20, by decide +kernel, by unfold pn_ok; decide +kernel, by decide⟩
theorem cv_L_50 : cv_ok RL 50 mX9_weigh 2 := ⟨mX9_weigh_ok, w_834, w_835, (List.mem_filter.mp w_836).1, by decide +kernel, by unfold pn_ok; decide +kernel, by decide⟩
theorem cv_X9_122 : cv_ok RX9 122 mX9_isBack 1 := ⟨mX9_isBack_ok, w_838, w_840, ws_21, by decide +kernel, by unfold pn_ok; decide +kernel, by decide⟩
theorem cv_L_55 : cv_ok RL 55 mX9_see 3 := ⟨mX9_see_ok, w_842, w_843, (List.mem_filter.mp w_844).1, by decide +kernel, by unfold pn_ok; decide +kernel, by decide⟩
theorem cs_X9_125 : cs_ok RX9 125 mX9_isGate 1 := ⟨mX9_isGate_ok, w_846, w_847, by unfold pn_ok; decide +kernel, by decide⟩
theorem cv_X9_128 : cv_ok RX9 128 mX9_seesSo 3 := ⟨mX9_seesSo_ok, w_849, w_851, ws_22, by decide +kernel, by unfold pn_ok; decide +kernel, by decide⟩
theorem cv_X9_50 : cv_ok RX9 50 mX9_stateOf 2 := ⟨mX9_stateOf_ok, w_853, w_855, ws_23, by decide +kernel, by unfold pn_ok; decide +kernel, by decide⟩
theorem cv_L_59 : cv_ok RL 59 mX9_set 2 := ⟨mX9_set_ok, w_857, w_858, (List.mem_filter.mp w_859).1, by decide +kernel, by unfold pn_ok; decide +kernel, by decide⟩
theorem cs_X9_132 : cs_ok RX9 132 mX9_canHold 2 := ⟨mX9_canHold_ok, w_861, w_862, by unfold pn_ok; decide +kernel, by decide⟩
theorem cv_X9_136 : cv_ok RX9 136 mX9_holds 2 := ⟨mX9_holds_ok, w_864, w_866, ws_24, by decide +kernel, by unfold pn_ok; decide +kernel, by decide⟩
theorem cv_X9_103 : cv_ok RX9 103 mX9_ages 0 := ⟨mX9_ages_ok, w_868, w_870, ws_25, by decide +kernel, by unfold pn_ok; decide +kernel, by decide⟩
theorem cv_X9_80 : cv_ok RX9 80 mX9_whenOf 2 := ⟨mX9_whenOf_ok, w_872, w_874, ws_26, by decide +kernel, by unfold pn_ok; decide +kernel, by decide⟩
theorem cv_X9_83 : cv_ok RX9 83 mX9_forgets 2 := ⟨mX9_forgets_ok, w_876, w_878, ws_27, by decide +kernel, by unfold pn_ok; decide +kernel, by decide⟩
theorem cv_X9_74 : cv_ok RX9 74 mX9_flowOf 2 := ⟨mX9_flowOf_ok, w_880, w_882, ws_28, by decide +kernel, by unfold pn_ok; decide +kernel, by decide⟩
theorem cv_X9_77 : cv_ok RX9 77 mX9_toOf 2 := ⟨mX9_toOf_ok, w_884, w_886, ws_29, by decide +kernel, by unfold pn_ok; decide +kernel, by decide⟩
theorem cv_X9_106 : cv_ok RX9 106 mX9_fits 0 := ⟨mX9_fits_ok, w_888, w_890, ws_30, by decide +kernel, by unfold pn_ok; decide +kernel, by decide⟩
theorem cv_X9_86 : cv_ok RX9 86 mX9_eldest 1 := ⟨mX9_eldest_ok, w_892, w_894, ws_31, by decide +kernel, by unfold pn_ok; decide +kernel, by decide⟩
theorem cv_L_64 : cv_ok RL 64 mX9_tick 1 := ⟨mX9_tick_ok, w_896, w_897, (List.mem_filter.mp w_898).1, by decide +kernel, by unfold pn_ok; decide +kernel, by decide⟩
theorem cv_X9_139 : cv_ok RX9 139 mX9_ticks 1 := ⟨mX9_ticks_ok, w_900, w_902, ws_32, by decide +kernel, by unfold pn_ok; decide +kernel, by decide⟩
theorem cv_L_68 : cv_ok RL 68 mX9_pack 2 := ⟨mX9_pack_ok, w_904, w_905, (List.mem_filter.mp w_906).1, by decide +kernel, by unfold pn_ok; decide +kernel, by decide⟩
theorem cs_X9_142 : cs_ok RX9 142 mX9_isFlow 1 := ⟨mX9_isFlow_ok, w_908, w_909, by unfold pn_ok; decide +kernel, by decide⟩
theorem cv_X9_145 : cv_ok RX9 145 mX9_packs 2 := ⟨mX9_packs_ok, w_911, w_913, ws_33, by decide +kernel, by unfold pn_ok; decide +kernel, by decide⟩
theorem cv_X9_100 : cv_ok RX9 100 mX9_goesTo 2 := ⟨mX9_goesTo_ok, w_915, w_917, ws_34, by decide +kernel, by unfold pn_ok; decide +kernel, by decide⟩
theorem cv_X9_91 : cv_ok RX9 91 mX9_placeOf 2 := ⟨mX9_placeOf_ok, w_919, w_921, ws_35, by decide +kernel, by unfold pn_ok; decide +kernel, by decide⟩
theorem cv_X9_94 : cv_ok RX9 94 mX9_laysGate 1 := ⟨mX9_laysGate_ok, w_923, w_925, ws_36, by decide +kernel, by unfold pn_ok; decide +kernel, by decide⟩
theorem cv_X9_67 : cv_ok RX9 67 mX9_sees 1 := ⟨mX9_sees_ok, w_927, w_929, ws_37, by decide +kernel, by unfold pn_ok; decide +kernel, by decide⟩
theorem cv_X9_71 : cv_ok RX9 71 mX9_lays 1 := ⟨mX9_lays_ok, w_931, w_933, ws_38, by decide +kernel, by unfold pn_ok; decide +kernel, by decide⟩
theorem cv_X9_59 : cv_ok RX9 59 mX9_greatest 0 := ⟨mX9_greatest_ok, w_935, w_937, ws_39, by decide +kernel, by unfold pn_ok; decide +kernel, by decide⟩
theorem cv_X9_63 : cv_ok RX9 63 mX9_takes 2 := ⟨mX9_takes_ok, w_939, w_941, ws_40, by decide +kernel, by unfold pn_ok; decide +kernel, by decide⟩
theorem cv_X9_53 : cv_ok RX9 53 mX9_offset 2 := ⟨mX9_offset_ok, w_943, w_945, ws_41, by decide +kernel, by unfold pn_ok; decide +kernel, by decide⟩
theorem cs_X9_45 : cs_ok RX9 45 mX9_mix 2 := ⟨mX9_mix_ok, w_948, w_949, by unfold pn_ok; decide +kernel, by decide⟩
theorem cv_X9_56 : cv_ok RX9 56 mX9_skip 2 := ⟨mX9_skip_ok, w_952, w_954, ws_42, by decide +kernel, by unfold pn_ok; decide +kernel, by decide⟩
theorem cv_X9_97 : cv_ok RX9 97 mX9_slotOf 1 := ⟨mX9_slotOf_ok, w_957, w_959, ws_43, by decide +kernel, by unfold pn_ok; decide +kernel, by decide⟩
theorem cv_L_72 : cv_ok RL 72 mX9_keep 1 := ⟨mX9_keep_ok, w_962, w_963, (List.mem_filter.mp w_964).1, by decide +kernel, by unfold pn_ok; decide +kernel, by decide⟩
theorem cv_L_23 : cv_ok RL 23 mX9_feed 5 := ⟨mX9_feed_ok, w_966, w_967, (List.mem_filter.mp w_968).1, by decide +kernel, by unfold pn_ok; decide +kernel, by decide⟩
theorem cv_X9_151 : cv_ok RX9 151 mX9_four 1 := ⟨mX9_four_ok, w_970, w_972, ws_44, by decide +kernel, by unfold pn_ok; decide +kernel, by decide⟩
theorem cv_L_28 : cv_ok RL 28 mX9_end 1 := ⟨mX9_end_ok, w_974, w_975, (List.mem_filter.mp w_976).1, by decide +kernel, by unfold pn_ok; decide +kernel, by decide⟩
theorem cv_L_33 : cv_ok RL 33 mX9_tell 0 := ⟨mX9_tell_ok, w_978, w_979, (List.mem_filter.mp w_980).1, by decide +kernel, by unfold pn_ok; decide +kernel, by decide⟩
theorem cv_X9_249 : cv_ok RX9 249 mX9_readText 0 := ⟨mX9_readText_ok, w_982, w_984, ws_45, by decide +kernel, by unfold pn_ok; decide +kernel, by decide⟩
theorem cv_X9_160 : cv_ok RX9 160 mX9_here 0 := ⟨mX9_here_ok, w_986, w_988, ws_46, by decide +kernel, by unfold pn_ok; decide +kernel, by decide⟩
theorem cv_X9_246 : cv_ok RX9 246 mX9_readStatement 0 := ⟨mX9_readStatement_ok, w_990, w_992, ws_47, by decide +kernel, by unfold pn_ok; decide +kernel, by decide⟩
theorem cv_X9_178 : cv_ok RX9 178 mX9_isWord 0 := ⟨mX9_isWord_ok, w_994, w_996, ws_48, by decide +kernel, by unfold pn_ok; decide +kernel, by decide⟩
theorem cv_X9_172 : cv_ok RX9 172 mX9_fails 2 := ⟨mX9_fails_ok, w_998, w_1000, ws_49, by decide +kernel, by unfold pn_ok; decide +kernel, by decide⟩
theorem cv_X9_185 : cv_ok RX9 185 mX9_readWord 0 := ⟨mX9_readWord_ok, w_1002, w_1004, ws_50, by decide +kernel, by unfold pn_ok; decide +kernel, by decide⟩
theorem cv_X9_208 : cv_ok RX9 208 mX9_readSize 0 := ⟨mX9_readSize_ok, w_1010, w_1012, ws_51, by decide +kernel, by unfold pn_ok; decide +kernel, by decide⟩
theorem cv_X9_191 : cv_ok RX9 191 mX9_number 2 := ⟨mX9_number_ok, w_1014, w_1016, ws_52, by decide +kernel, by unfold pn_ok; decide +kernel, by decide⟩
theorem cv_X9_194 : cv_ok RX9 194 mX9_ends 0 := ⟨mX9_ends_ok, w_1018, w_1020, ws_53, by decide +kernel, by unfold pn_ok; decide +kernel, by decide⟩
theorem cv_X9_213 : cv_ok RX9 213 mX9_readBack 1 := ⟨mX9_readBack_ok, w_1023, w_1025, ws_54, by decide +kernel, by unfold pn_ok; decide +kernel, by decide⟩
theorem cv_X9_218 : cv_ok RX9 218 mX9_readWeigh 0 := ⟨mX9_readWeigh_ok, w_1028, w_1030, ws_55, by decide +kernel, by unfold pn_ok; decide +kernel, by decide⟩
theorem cv_X9_223 : cv_ok RX9 223 mX9_readSee 0 := ⟨mX9_readSee_ok, w_1033, w_1035, ws_56, by decide +kernel, by unfold pn_ok; decide +kernel, by decide⟩
theorem cv_X9_197 : cv_ok RX9 197 mX9_gates 0 := ⟨mX9_gates_ok, w_1037, w_1039, ws_57, by decide +kernel, by unfold pn_ok; decide +kernel, by decide⟩
theorem cv_X9_228 : cv_ok RX9 228 mX9_readTick 0 := ⟨mX9_readTick_ok, w_1046, w_1048, ws_58, by decide +kernel, by unfold pn_ok; decide +kernel, by decide⟩
theorem cv_X9_235 : cv_ok RX9 235 mX9_readHold 1 := ⟨mX9_readHold_ok, w_1052, w_1054, ws_59, by decide +kernel, by unfold pn_ok; decide +kernel, by decide⟩
theorem cv_X9_240 : cv_ok RX9 240 mX9_readPack 0 := ⟨mX9_readPack_ok, w_1057, w_1059, ws_60, by decide +kernel, by unfold pn_ok; decide +kernel, by decide⟩
theorem cv_L_37 : cv_ok RL 37 mX9_fault 0 := ⟨mX9_fault_ok, w_1061, w_1062, (List.mem_filter.mp w_1063).1, by decide +kernel, by unfold pn_ok; decide +kernel, by decide⟩
theorem cv_L_76 : cv_ok RL 76 mX9_count 1 := ⟨mX9_count_ok, w_1065, w_1066, (List.mem_filter.mp w_1067).1, by decide +kernel, by unfold pn_ok; decide +kernel, by decide⟩
theorem cv_L_82 : cv_ok RL 82 mX9_of 2 := ⟨mX9_of_ok, w_1069, w_1070, (List.mem_filter.mp w_1071).1, by decide +kernel, by unfold pn_ok; decide +kernel, by decide⟩
theorem cv_L_89 : cv_ok RL 89 mX9_slot 2 := ⟨mX9_slot_ok, w_1073, w_1074, (List.mem_filter.mp w_1075).1, by decide +kernel, by unfold pn_ok; decide +kernel, by decide⟩
theorem cv_X9_255 : cv_ok RX9 255 mX9_isSlot 1 := ⟨mX9_isSlot_ok, w_1077, w_1079, ws_61, by decide +kernel, by unfold pn_ok; decide +kernel, by decide⟩
theorem cv_L_93 : cv_ok RL 93 mX9_table 2 := ⟨mX9_table_ok, w_1081, w_1082, (List.mem_filter.mp w_1083).1, by decide +kernel, by unfold pn_ok; decide +kernel, by decide⟩
theorem cv_L_97 : cv_ok RL 97 mX9_share 2 := ⟨mX9_share_ok, w_1085, w_1086, (List.mem_filter.mp w_1087).1, by decide +kernel, by unfold pn_ok; decide +kernel, by decide⟩
theorem cv_X9_258 : cv_ok RX9 258 mX9_sharedBy 2 := ⟨mX9_sharedBy_ok, w_1089, w_1091, ws_62, by decide +kernel, by unfold pn_ok; decide +kernel, by decide⟩
theorem cv_L_101 : cv_ok RL 101 mX9_shareBits 2 := ⟨mX9_shareBits_ok, w_1093, w_1094, (List.mem_filter.mp w_1095).1, by decide +kernel, by unfold pn_ok; decide +kernel, by decide⟩
theorem cs_X9_261 : cs_ok RX9 261 mJxf58ca_floatToIntBits_5c35a 1 := ⟨mJxf58ca_floatToIntBits_5c35a_ok, w_1097, w_1098, by unfold pn_ok; decide +kernel, by decide⟩
theorem cs_Jxf58ca_59 : cs_ok RJxf58ca 59 mJxf58ca_isNaN_12338 1 := ⟨mJxf58ca_isNaN_12338_ok, w_1100, w_1101, by unfold pn_ok; decide +kernel, by decide⟩
theorem cv_L_105 : cv_ok RL 105 mX9_uneven 1 := ⟨mX9_uneven_ok, w_1107, w_1108, (List.mem_filter.mp w_1109).1, by decide +kernel, by unfold pn_ok; decide +kernel, by decide⟩
theorem cv_X9_267 : cv_ok RX9 267 mX9_unevenBy 1 := ⟨mX9_unevenBy_ok, w_1111, w_1113, ws_63, by decide +kernel, by unfold pn_ok; decide +kernel, by decide⟩
theorem cv_L_109 : cv_ok RL 109 mX9_evenest 1 := ⟨mX9_evenest_ok, w_1115, w_1116, (List.mem_filter.mp w_1117).1, by decide +kernel, by unfold pn_ok; decide +kernel, by decide⟩
theorem cv_L_113 : cv_ok RL 113 mX9_changed 2 := ⟨mX9_changed_ok, w_1119, w_1120, (List.mem_filter.mp w_1121).1, by decide +kernel, by unfold pn_ok; decide +kernel, by decide⟩
theorem cv_L_117 : cv_ok RL 117 mX9_alike 2 := ⟨mX9_alike_ok, w_1123, w_1124, (List.mem_filter.mp w_1125).1, by decide +kernel, by unfold pn_ok; decide +kernel, by decide⟩
theorem cv_X9_270 : cv_ok RX9 270 mX9_copiesLaid 0 := ⟨mX9_copiesLaid_ok, w_1127, w_1129, ws_64, by decide +kernel, by unfold pn_ok; decide +kernel, by decide⟩
theorem cv_L_122 : cv_ok RL 122 mX9_were 4 := ⟨mX9_were_ok, w_1131, w_1132, (List.mem_filter.mp w_1133).1, by decide +kernel, by unfold pn_ok; decide +kernel, by decide⟩
theorem cv_X9_273 : cv_ok RX9 273 mX9_wereBy 4 := ⟨mX9_wereBy_ok, w_1135, w_1137, ws_65, by decide +kernel, by unfold pn_ok; decide +kernel, by decide⟩
theorem cv_L_126 : cv_ok RL 126 mX9_roughest 1 := ⟨mX9_roughest_ok, w_1139, w_1140, (List.mem_filter.mp w_1141).1, by decide +kernel, by unfold pn_ok; decide +kernel, by decide⟩
theorem cv_L_130 : cv_ok RL 130 mX9_flow 1 := ⟨mX9_flow_ok, w_1143, w_1144, (List.mem_filter.mp w_1145).1, by decide +kernel, by unfold pn_ok; decide +kernel, by decide⟩
theorem cv_L_134 : cv_ok RL 134 mX9_remembers 3 := ⟨mX9_remembers_ok, w_1147, w_1148, (List.mem_filter.mp w_1149).1, by decide +kernel, by unfold pn_ok; decide +kernel, by decide⟩
theorem cv_L_138 : cv_ok RL 138 mX9_flows 2 := ⟨mX9_flows_ok, w_1151, w_1152, (List.mem_filter.mp w_1153).1, by decide +kernel, by unfold pn_ok; decide +kernel, by decide⟩
theorem cv_L_142 : cv_ok RL 142 mX9_flowAt 2 := ⟨mX9_flowAt_ok, w_1155, w_1156, (List.mem_filter.mp w_1157).1, by decide +kernel, by unfold pn_ok; decide +kernel, by decide⟩
theorem cv_L_146 : cv_ok RL 146 mX9_astray 2 := ⟨mX9_astray_ok, w_1159, w_1160, (List.mem_filter.mp w_1161).1, by decide +kernel, by unfold pn_ok; decide +kernel, by decide⟩
theorem cv_L_150 : cv_ok RL 150 mX9_idle 2 := ⟨mX9_idle_ok, w_1163, w_1164, (List.mem_filter.mp w_1165).1, by decide +kernel, by unfold pn_ok; decide +kernel, by decide⟩
theorem ct_X8_9 : ctn_ok RX8 9 mX4_init 0 := ⟨mX4_init_ok, (by decide +kernel), w_35, rfl, rfl, by unfold pn_ok; decide +kernel, by decide⟩
theorem ct_X8_18 : ctn_ok RX8 18 mX3_init 0 := ⟨mX3_init_ok, (by decide +kernel), w_52, rfl, rfl, by unfold pn_ok; decide +kernel, by decide⟩
theorem ct_X7_20 : ctn_ok RX7 20 mX1_init 0 := ⟨mX1_init_ok, (by decide +kernel), w_84, rfl, rfl, by unfold pn_ok; decide +kernel, by decide⟩
theorem ct_X1_20 : ctn_ok RX1 20 mX2_init 0 := ⟨mX2_init_ok, (by decide +kernel), w_90, rfl, rfl, by unfold pn_ok; decide +kernel, by decide⟩
theorem cs_X5_114 : csn_ok RX5 114 mX8_isSize 1 := ⟨mX8_isSize_ok, (by decide +kernel), w_357, by unfold pn_ok; decide +kernel, by decide⟩
theorem cs_X5_121 : csn_ok RX5 121 mX8_isWithin 3 := ⟨mX8_isWithin_ok, (by decide +kernel), w_366, by unfold pn_ok; decide +kernel, by decide⟩
theorem cs_X5_128 : csn_ok RX5 128 mX8_isGate 1 := ⟨mX8_isGate_ok, (by decide +kernel), w_373, by unfold pn_ok; decide +kernel, by decide⟩
theorem cs_X5_131 : csn_ok RX5 131 mX8_isFlow 1 := ⟨mX8_isFlow_ok, (by decide +kernel), w_377, by unfold pn_ok; decide +kernel, by decide⟩
theorem cs_X3_37 : csn_ok RX3 37 mX8_isAmong 2 := ⟨mX8_isAmong_ok, (by decide +kernel), w_464, by unfold pn_ok; decide +kernel, by decide⟩
theorem cs_X3_51 : csn_ok RX3 51 mX8_offsetOf 2 := ⟨mX8_offsetOf_ok, (by decide +kernel), w_467, by unfold pn_ok; decide +kernel, by decide⟩
theorem cs_X3_55 : csn_ok RX3 55 mX8_skipOf 2 := ⟨mX8_skipOf_ok, (by decide +kernel), w_478, by unfold pn_ok; decide +kernel, by decide⟩
theorem cs_X3_63 : csn_ok RX3 63 mX8_modulo 2 := ⟨mX8_modulo_ok, (by decide +kernel), w_475, by unfold pn_ok; decide +kernel, by decide⟩
theorem cs_X7_99 : csn_ok RX7 99 mX8_slotOfFlow 2 := ⟨mX8_slotOfFlow_ok, (by decide +kernel), w_490, by unfold pn_ok; decide +kernel, by decide⟩
