/-! the class's own functions -/
def bz (p : Prop) [Decidable p] : Int32 := if p then 1 else 0
theorem bz_1 {p : Prop} [Decidable p] (h : p) : bz p = 1 := if_pos h
theorem bz_0 {p : Prop} [Decidable p] (h : ¬ p) : bz p = 0 := if_neg h
theorem bz_eq1 {p : Prop} [Decidable p] : ¬ bz p = 0 ↔ p := by
  unfold bz; split
  · simp [*]
  · simp [*]
theorem bz_eq0 {p : Prop} [Decidable p] : bz p = 0 ↔ ¬ p := by
  unfold bz; split
  · simp [*]
  · simp [*]
theorem m_isWithin {G : SG} {d : Nat} {h : AH} {v a b : Int32} : SW G mX8_isWithin d 0 0 0 [.int v, .int a, .int b] [] h (fun r h' => r = some (.int (bz (a ≤ v ∧ v ≤ b))) ∧ h' = h) := by
  refine sw_iload_n dX8_isWithin_0 rfl ?_
  refine sw_iload_n dX8_isWithin_1 rfl ?_
  refine sw_cmplt (tgt := 14) dX8_isWithin_2 (by decide) (fun hc => ?_) (fun hc => ?_)
  · refine sw_iconst (v := 0) dX8_isWithin_14 (by decide) ?_
    exact sw_ireturn dX8_isWithin_15 rfl rfl (⟨by rw [bz_0 (fun q => Int32.not_le.mpr hc q.1)], rfl⟩)
  · refine sw_iload_n dX8_isWithin_5 rfl ?_
    refine sw_iload_n dX8_isWithin_6 rfl ?_
    refine sw_cmpgt (tgt := 14) dX8_isWithin_7 (by decide) (fun hb => ?_) (fun hb => ?_)
    · refine sw_iconst (v := 0) dX8_isWithin_14 (by decide) ?_
      exact sw_ireturn dX8_isWithin_15 rfl rfl (⟨by rw [bz_0 (fun q => Int32.not_le.mpr hb q.2)], rfl⟩)
    · refine sw_iconst (v := 1) dX8_isWithin_10 (by decide) ?_
      refine sw_goto (tgt := 15) dX8_isWithin_11 (by decide) ?_
      exact sw_ireturn dX8_isWithin_15 rfl rfl (⟨by rw [bz_1 ⟨Int32.not_lt.mp hc, Int32.not_lt.mp hb⟩], rfl⟩)
theorem bz_nar (p : Prop) [Decidable p] : narrow .boolean (.int (bz p)) = .int (bz p) := by
  unfold bz; split <;> rfl
theorem m_isGate {G : SG} {d : Nat} {h : AH} {v : Int32} : SW G mX8_isGate (d + 1) 0 0 0 [.int v] [] h (fun r h' => r = some (.int (bz (0 ≤ v ∧ v ≤ 3))) ∧ h' = h) := by
  refine sw_iload_n dX8_isGate_0 rfl ?_
  refine sw_iconst (v := 0) dX8_isGate_1 (by decide) ?_
  refine sw_iconst (v := 3) dX8_isGate_2 (by decide) ?_
  refine sw_cs3 dX8_isGate_3 cs_X8_92 (m_isWithin) (fun r g hp => ?_)
  obtain ⟨rfl, rfl⟩ := hp
  exact sw_ireturn dX8_isGate_6 rfl (bz_nar _) (⟨rfl, rfl⟩)
theorem m_isState {G : SG} {d : Nat} {h : AH} {v : Int32} : SW G mX8_isState (d + 1) 0 0 0 [.int v] [] h (fun r h' => r = some (.int (bz (0 ≤ v ∧ v ≤ 2))) ∧ h' = h) := by
  refine sw_iload_n dX8_isState_0 rfl ?_
  refine sw_iconst (v := 0) dX8_isState_1 (by decide) ?_
  refine sw_iconst (v := 2) dX8_isState_2 (by decide) ?_
  refine sw_cs3 dX8_isState_3 cs_X8_92 (m_isWithin) (fun r g hp => ?_)
  obtain ⟨rfl, rfl⟩ := hp
  exact sw_ireturn dX8_isState_6 rfl (bz_nar _) (⟨rfl, rfl⟩)
theorem m_isFlow {G : SG} {d : Nat} {h : AH} {v : Int32} : SW G mX8_isFlow (d + 1) 0 0 0 [.int v] [] h (fun r h' => r = some (.int (bz (0 ≤ v ∧ v ≤ 9999))) ∧ h' = h) := by
  refine sw_iload_n dX8_isFlow_0 rfl ?_
  refine sw_iconst (v := 0) dX8_isFlow_1 (by decide) ?_
  refine sw_sipush (v := 9999) dX8_isFlow_2 (by decide) ?_
  refine sw_cs3 dX8_isFlow_5 cs_X8_92 (m_isWithin) (fun r g hp => ?_)
  obtain ⟨rfl, rfl⟩ := hp
  exact sw_ireturn dX8_isFlow_8 rfl (bz_nar _) (⟨rfl, rfl⟩)
/-- the mixture -/
def ushr (x z : Int32) : Int32 := (x.toUInt32 >>> (z.toUInt32 &&& Int32.toUInt32 31)).toInt32
def mixI (v a : Int32) : Int32 :=
  let x1 := v * a
  let x2 := x1 ^^^ ushr x1 15
  let x3 := x2 * (-2048144789)
  let x4 := x3 ^^^ ushr x3 13
  ushr x4 1
theorem m_mix {G : SG} {d : Nat} {h : AH} {v a : Int32} : SW G mX8_mix d 0 0 0 [.int v, .int a, .retAddr 0] [] h (fun r h' => r = some (.int (mixI v a)) ∧ h' = h) := by
  refine sw_iload_n dX8_mix_0 rfl ?_
  refine sw_iload_n dX8_mix_1 rfl ?_
  refine sw_imul dX8_mix_2 ?_
  refine sw_istore_n dX8_mix_3 (by decide) rfl ?_
  refine sw_iload_n dX8_mix_4 rfl ?_
  refine sw_iload_n dX8_mix_5 rfl ?_
  refine sw_bipush (v := 15) dX8_mix_6 (by decide) ?_
  refine sw_iushr dX8_mix_8 ?_
  refine sw_ixor dX8_mix_9 ?_
  refine sw_istore_n dX8_mix_10 (by decide) rfl ?_
  refine sw_iload_n dX8_mix_11 rfl ?_
  refine sw_ldcw dX8_mix_12 w_473 ?_
  refine sw_imul dX8_mix_15 ?_
  refine sw_istore_n dX8_mix_16 (by decide) rfl ?_
  refine sw_iload_n dX8_mix_17 rfl ?_
  refine sw_iload_n dX8_mix_18 rfl ?_
  refine sw_bipush (v := 13) dX8_mix_19 (by decide) ?_
  refine sw_iushr dX8_mix_21 ?_
  refine sw_ixor dX8_mix_22 ?_
  refine sw_istore_n dX8_mix_23 (by decide) rfl ?_
  refine sw_iload_n dX8_mix_24 rfl ?_
  refine sw_iconst (v := 1) dX8_mix_25 (by decide) ?_
  refine sw_iushr dX8_mix_26 ?_
  exact sw_ireturn dX8_mix_27 rfl rfl (⟨rfl, rfl⟩)
def remI (v z : Int32) : Int32 := if z ≤ 0 then 0 else v - v / z * z
theorem m_modulo {G : SG} {d : Nat} {h : AH} {v z : Int32} : SW G mX8_modulo d 0 0 0 [.int v, .int z] [] h (fun r h' => r = some (.int (remI v z)) ∧ h' = h) := by
  refine sw_iload_n dX8_modulo_0 rfl ?_
  refine sw_ifle (tgt := 10) dX8_modulo_1 (by decide) (fun hc => ?_) (fun hc => ?_)
  · refine sw_iconst (v := 0) dX8_modulo_10 (by decide) ?_
    exact sw_ireturn dX8_modulo_11 rfl rfl (⟨by rw [remI, if_pos hc], rfl⟩)
  · refine sw_iload_n dX8_modulo_4 rfl ?_
    refine sw_iload_n dX8_modulo_5 rfl ?_
    refine sw_irem dX8_modulo_6 (fun q => hc (by rw [q]; exact Int32.le_refl _)) ?_
    refine sw_goto (tgt := 11) dX8_modulo_7 (by decide) ?_
    exact sw_ireturn dX8_modulo_11 rfl rfl (⟨by rw [remI, if_neg hc], rfl⟩)
def offI (key z : Int32) : Int32 := remI (mixI key (-1640531535)) z
def skpI (key z : Int32) : Int32 := remI (mixI key (-2048144777)) (z - 1) + 1
def slfI (flow z : Int32) : Int32 := remI (mixI flow 668265263) z
theorem m_offsetOf {G : SG} {d : Nat} {h : AH} {v z : Int32} : SW G mX8_offsetOf (d + 1) 0 0 0 [.int v, .int z] [] h (fun r h' => r = some (.int (offI v z)) ∧ h' = h) := by
  refine sw_iload_n dX8_offsetOf_0 rfl ?_
  refine sw_ldcw dX8_offsetOf_1 w_469 ?_
  refine sw_cs2 dX8_offsetOf_4 cs_X8_276 (m_mix) (fun r g hp => ?_)
  obtain ⟨rfl, rfl⟩ := hp
  refine sw_iload_n dX8_offsetOf_7 rfl ?_
  refine sw_cs2 dX8_offsetOf_8 cs_X8_192 (m_modulo) (fun r g hp => ?_)
  obtain ⟨rfl, rfl⟩ := hp
  exact sw_ireturn dX8_offsetOf_11 rfl rfl (⟨rfl, rfl⟩)
theorem m_skipOf {G : SG} {d : Nat} {h : AH} {v z : Int32} : SW G mX8_skipOf (d + 1) 0 0 0 [.int v, .int z] [] h (fun r h' => r = some (.int (skpI v z)) ∧ h' = h) := by
  refine sw_iload_n dX8_skipOf_0 rfl ?_
  refine sw_ldcw dX8_skipOf_1 w_480 ?_
  refine sw_cs2 dX8_skipOf_4 cs_X8_276 (m_mix) (fun r g hp => ?_)
  obtain ⟨rfl, rfl⟩ := hp
  refine sw_iload_n dX8_skipOf_7 rfl ?_
  refine sw_iconst (v := 1) dX8_skipOf_8 (by decide) ?_
  refine sw_isub dX8_skipOf_9 ?_
  refine sw_cs2 dX8_skipOf_10 cs_X8_192 (m_modulo) (fun r g hp => ?_)
  obtain ⟨rfl, rfl⟩ := hp
  refine sw_iconst (v := 1) dX8_skipOf_13 (by decide) ?_
  refine sw_iadd dX8_skipOf_14 ?_
  exact sw_ireturn dX8_skipOf_15 rfl rfl (⟨rfl, rfl⟩)
theorem m_slotOfFlow {G : SG} {d : Nat} {h : AH} {v z : Int32} : SW G mX8_slotOfFlow (d + 1) 0 0 0 [.int v, .int z] [] h (fun r h' => r = some (.int (slfI v z)) ∧ h' = h) := by
  refine sw_iload_n dX8_slotOfFlow_0 rfl ?_
  refine sw_ldcw dX8_slotOfFlow_1 w_492 ?_
  refine sw_cs2 dX8_slotOfFlow_4 cs_X8_276 (m_mix) (fun r g hp => ?_)
  obtain ⟨rfl, rfl⟩ := hp
  refine sw_iload_n dX8_slotOfFlow_7 rfl ?_
  refine sw_cs2 dX8_slotOfFlow_8 cs_X8_192 (m_modulo) (fun r g hp => ?_)
  obtain ⟨rfl, rfl⟩ := hp
  exact sw_ireturn dX8_slotOfFlow_11 rfl rfl (⟨rfl, rfl⟩)
/-- the sizes that can be -/
def szs : List Value := [.int 3, .int 5, .int 7, .int 11, .int 13, .int 17, .int 19, .int 23, .int 29, .int 31, .int 37, .int 41, .int 43, .int 47, .int 53, .int 59, .int 61, .int 67, .int 71, .int 73, .int 79, .int 83, .int 89, .int 97]
def szN : List Nat := [3, 5, 7, 11, 13, 17, 19, 23, 29, 31, 37, 41, 43, 47, 53, 59, 61, 67, 71, 73, 79, 83, 89, 97]
def isSz (v : Int32) : Bool := szN.any (fun n => decide (nI n = v))
theorem szs_mem : (1081, FieldType.int, 24, szs) ∈ ro_ar := List.mem_of_getElem? (i := 1) rfl
theorem szs_at : ∀ i, i < 24 → szs.getD i .null = .int (nI (szN.getD i 0)) := by decide +kernel
theorem m_isSize_l {G : SG} {d : Nat} {h : AH} {v : Int32} {P : Option Value → AH → Prop} : ∀ (c i : Nat), i + c = 24 → P (some (.int (bz ((szN.drop i).any (fun n => decide (nI n = v)) = true)))) h → SW G mX8_isSize d 0 0 2 [.int v, .int (nI i)] [] h P := by
  intro c
  induction c with
  | zero =>
    intro i hi hP
    have : i = 24 := by omega
    subst this
    refine sw_iload_n dX8_isSize_2 rfl ?_
    refine sw_gets (v := .ref 1081) dX8_isSize_3 w_359 (by decide +kernel) ?_
    refine sw_alenR (v := 24) dX8_isSize_6 (szs_mem) (by decide) ?_
    refine sw_cmpge (tgt := 27) dX8_isSize_7 (by decide) (fun hc => ?_) (fun hc => ?_)
    · refine sw_iconst (v := 0) dX8_isSize_27 (by decide) ?_
      exact sw_ireturn dX8_isSize_28 rfl rfl (by rw [bz_0 (by simp [szN])] at hP; exact hP)
    · exact absurd (nI_le (a := 24) (b := 24) (Nat.le_refl _) (by omega)) hc
  | succ c ih =>
    intro i hi hP
    have hd : szN.drop i = szN.getD i 0 :: szN.drop (i + 1) := by
      rw [List.drop_eq_getElem_cons (show i < szN.length by show i < 24; omega), List.getD_eq_getElem?_getD, List.getElem?_eq_getElem (show i < szN.length by show i < 24; omega)]
      rfl
    rw [hd, List.any_cons] at hP
    refine sw_iload_n dX8_isSize_2 rfl ?_
    refine sw_gets (v := .ref 1081) dX8_isSize_3 w_359 (by decide +kernel) ?_
    refine sw_alenR (v := 24) dX8_isSize_6 (szs_mem) (by decide) ?_
    refine sw_cmpge (tgt := 27) dX8_isSize_7 (by decide) (fun hc => ?_) (fun hc => ?_)
    · exact absurd hc (nI_ge (b := 24) (by omega) (by omega))
    · refine sw_gets (v := .ref 1081) dX8_isSize_10 w_359 (by decide +kernel) ?_
      refine sw_iload_n dX8_isSize_13 rfl ?_
      refine sw_ialdR (v := .int (nI (szN.getD i 0))) dX8_isSize_14 (szs_mem) (vp_in_nI (by omega) (by omega)) (nIat (f := fun i => szs.getD i .null) (by omega) (szs_at i (by omega))) ?_
      refine sw_iload_n dX8_isSize_15 rfl ?_
      refine sw_cmpne (tgt := 21) dX8_isSize_16 (by decide) (fun hc => ?_) (fun hc => ?_)
      · refine sw_iinc (v := nI (i + 1)) dX8_isSize_21 rfl (nI_1 i) (by decide) rfl ?_
        refine sw_goto (tgt := 2) dX8_isSize_24 (by decide) ?_
        exact ih (i + 1) (by omega) (by rw [decide_eq_false hc, Bool.false_or] at hP; exact hP)
      · refine sw_iconst (v := 1) dX8_isSize_19 (by decide) ?_
        exact sw_ireturn dX8_isSize_20 rfl rfl (by rw [decide_eq_true hc, Bool.true_or, bz_1 rfl] at hP; exact hP)
theorem m_isSize {G : SG} {d : Nat} {h : AH} {v : Int32} : SW G mX8_isSize d 0 0 0 [.int v, .retAddr 0] [] h (fun r h' => r = some (.int (bz (isSz v = true))) ∧ h' = h) := by
  refine sw_iconst (v := 0) dX8_isSize_0 (by decide) ?_
  refine sw_istore_n dX8_isSize_1 (by decide) rfl ?_
  exact m_isSize_l 24 0 rfl ⟨rfl, rfl⟩
/-- backends as bits -/
theorem bit_at : ∀ m, m < 256 → ∀ b, b < 8 → (nI m >>> (nI b &&& 31)) &&& 1 = nI (if m.testBit b then 1 else 0) := by decide +kernel
theorem m_isAmong {G : SG} {d m b : Nat} {h : AH} (hm : m < 256) (hb : b < 8) : SW G mX8_isAmong d 0 0 0 [.int (nI m), .int (nI b)] [] h (fun r h' => r = some (.int (bz (m.testBit b = true))) ∧ h' = h) := by
  have hbit := bit_at m hm b hb
  refine sw_iload_n dX8_isAmong_0 rfl ?_
  refine sw_iflt (tgt := 17) dX8_isAmong_1 (by decide) (fun hc => ?_) (fun hc => ?_)
  · exact absurd hc (nI_pos (by omega))
  · refine sw_iload_n dX8_isAmong_4 rfl ?_
    refine sw_iload_n dX8_isAmong_5 rfl ?_
    refine sw_ishr dX8_isAmong_6 ?_
    refine sw_iconst (v := 1) dX8_isAmong_7 (by decide) ?_
    refine sw_iand dX8_isAmong_8 ?_
    rw [hbit]
    refine sw_iconst (v := 1) dX8_isAmong_9 (by decide) ?_
    refine sw_cmpne (tgt := 17) dX8_isAmong_10 (by decide) (fun hq => ?_) (fun hq => ?_)
    · have : ¬ m.testBit b = true := fun z => hq (by rw [if_pos z]; rfl)
      refine sw_iconst (v := 0) dX8_isAmong_17 (by decide) ?_
      exact sw_ireturn dX8_isAmong_18 rfl rfl (⟨by rw [bz_0 this], rfl⟩)
    · have : m.testBit b = true := by
        by_cases z : m.testBit b = true
        · exact z
        · rw [if_neg z] at hq; exact absurd hq (by decide)
      refine sw_iconst (v := 1) dX8_isAmong_13 (by decide) ?_
      refine sw_goto (tgt := 18) dX8_isAmong_14 (by decide) ?_
      exact sw_ireturn dX8_isAmong_18 rfl rfl (⟨by rw [bz_1 this], rfl⟩)
theorem m_isAmong_m1 {G : SG} {d : Nat} {h : AH} {v : Int32} : SW G mX8_isAmong d 0 0 0 [.int v, .int (-1)] [] h (fun r h' => r = some (.int 0) ∧ h' = h) := by
  refine sw_iload_n dX8_isAmong_0 rfl ?_
  refine sw_iflt (tgt := 17) dX8_isAmong_1 (by decide) (fun hc => ?_) (fun hc => ?_)
  · refine sw_iconst (v := 0) dX8_isAmong_17 (by decide) ?_
    exact sw_ireturn dX8_isAmong_18 rfl rfl (⟨rfl, rfl⟩)
  · exact absurd (by decide) hc
/-- how many slots are of a backend -/
def cntS (t : Nat → Int32) (b : Int32) : Nat → Nat
  | 0 => 0
  | n + 1 => cntS t b n + if t n = b then 1 else 0
theorem cntS_le (t : Nat → Int32) (b : Int32) : ∀ n, cntS t b n ≤ n := by
  intro n
  induction n with
  | zero => exact Nat.le_refl _
  | succ n ih => unfold cntS; split <;> omega
theorem m_slotsOf_l {G : SG} {d o p : Nat} {h : AH} {t : Nat → Int32} {b : Int32} {P : Option Value → AH → Prop} (ho : h[o]? = some (.inl (0, 97, .inl t))) (hp : p ≤ 97) (hP : P (some (.int (nI (cntS t b p)))) h) : ∀ (c i : Nat), i + c = p → SW G mX8_slotsOf d 0 0 5 [.ref o, .int (nI p), .int b, .int (nI (cntS t b i)), .int (nI i)] [] h P := by
  intro c
  induction c with
  | zero =>
    intro i hi
    have : i = p := by omega
    subst this
    refine sw_iload dX8_slotsOf_5 rfl ?_
    refine sw_iload_n dX8_slotsOf_7 rfl ?_
    refine sw_cmpge (tgt := 28) dX8_slotsOf_8 (by decide) (fun hc => ?_) (fun hc => ?_)
    · refine sw_iload_n dX8_slotsOf_28 rfl ?_
      exact sw_ireturn dX8_slotsOf_29 rfl rfl (hP)
    · exact absurd (nI_le (Nat.le_refl _) (by omega)) hc
  | succ c ih =>
    intro i hi
    refine sw_iload dX8_slotsOf_5 rfl ?_
    refine sw_iload_n dX8_slotsOf_7 rfl ?_
    refine sw_cmpge (tgt := 28) dX8_slotsOf_8 (by decide) (fun hc => ?_) (fun hc => ?_)
    · exact absurd hc (nI_ge (by omega) (by omega))
    · refine sw_aload_n dX8_slotsOf_11 rfl ?_
      refine sw_iload dX8_slotsOf_12 rfl ?_
      refine sw_iald dX8_slotsOf_14 ho (vp_in_nI (by omega) (by omega)) (nIat (by omega) rfl) ?_
      refine sw_iload_n dX8_slotsOf_15 rfl ?_
      refine sw_cmpne (tgt := 22) dX8_slotsOf_16 (by decide) (fun hb => ?_) (fun hb => ?_)
      · refine sw_iinc (v := nI (i + 1)) dX8_slotsOf_22 rfl (nI_1 i) (by decide) rfl ?_
        refine sw_goto (tgt := 5) dX8_slotsOf_25 (by decide) ?_
        have h1 : cntS t b (i + 1) = cntS t b i := by rw [cntS, if_neg hb]; rfl
        have := ih (i + 1) (by omega)
        rw [h1] at this
        exact this
      · refine sw_iinc (v := nI (cntS t b i + 1)) dX8_slotsOf_19 rfl (nI_1 _) (by decide) rfl ?_
        refine sw_iinc (v := nI (i + 1)) dX8_slotsOf_22 rfl (nI_1 i) (by decide) rfl ?_
        refine sw_goto (tgt := 5) dX8_slotsOf_25 (by decide) ?_
        have h1 : cntS t b (i + 1) = cntS t b i + 1 := by rw [cntS, if_pos hb]
        have := ih (i + 1) (by omega)
        rw [h1] at this
        exact this
theorem m_slotsOf {G : SG} {d o p : Nat} {h : AH} {t : Nat → Int32} {b : Int32} (ho : h[o]? = some (.inl (0, 97, .inl t))) (hp : p ≤ 97) : SW G mX8_slotsOf d 0 0 0 [.ref o, .int (nI p), .int b, .retAddr 0, .retAddr 0] [] h (fun r h' => r = some (.int (nI (cntS t b p))) ∧ h' = h) := by
  refine sw_iconst (v := 0) dX8_slotsOf_0 (by decide) ?_
  refine sw_istore_n dX8_slotsOf_1 (by decide) rfl ?_
  refine sw_iconst (v := 0) dX8_slotsOf_2 (by decide) ?_
  refine sw_istore dX8_slotsOf_3 (by decide) rfl ?_
  exact m_slotsOf_l ho hp ⟨rfl, rfl⟩ p 0 (by omega)
