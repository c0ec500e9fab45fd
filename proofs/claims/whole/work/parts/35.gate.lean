/-! a gateway of the class: states, kept row, whether there is one, flows -/
abbrev GS : Type := (Nat → Int32) × (Nat → Int32) × Int32 × List E3
def GateAt (h : AH) (k : Nat) (g : GS) : Prop := h[k]? = some (.inr (0, [.ref (k + 1), .ref (k + 2), .ref (k + 3), .int g.2.2.1])) ∧ h[k + 1]? = some (.inl (0, 8, .inl g.1)) ∧ h[k + 2]? = some (.inl (0, 97, .inl g.2.1)) ∧ MemAt h (k + 3) g.2.2.2 ∧ (g.2.2.1 = 0 ∨ g.2.2.1 = 1)
def Same7 (h h' : AH) (k : Nat) : Prop := h'.length = h.length ∧ ∀ j, j < k ∨ k + 7 ≤ j → h'[j]? = h[j]?
theorem Same7.rf {h : AH} {k : Nat} : Same7 h h k := ⟨rfl, fun _ _ => rfl⟩
theorem Same7.tr {h h1 h2 : AH} {k : Nat} (a : Same7 h h1 k) (b : Same7 h1 h2 k) : Same7 h h2 k := ⟨b.1.trans a.1, fun j hj => (b.2 j hj).trans (a.2 j hj)⟩
theorem GateAt.kept {h h' : AH} {k : Nat} {g : GS} (H : GateAt h k g) (hk : ∀ j, k ≤ j → j < k + 7 → h'[j]? = h[j]?) : GateAt h' k g :=
  ⟨(hk _ (by omega) (by omega)).trans H.1, (hk _ (by omega) (by omega)).trans H.2.1, (hk _ (by omega) (by omega)).trans H.2.2.1, H.2.2.2.1.kept (fun j a b => hk j (by omega) (by omega)), H.2.2.2.2⟩
/-- another memory in a gateway -/
theorem GateAt.mem {h h' : AH} {k : Nat} {g : GS} {es : List E3} (H : GateAt h k g) (hM : MemAt h' (k + 3) es) (hS : Same4 h h' (k + 3)) : GateAt h' k (g.1, g.2.1, g.2.2.1, es) ∧ Same7 h h' k :=
  ⟨⟨(hS.2 _ (by omega)).trans H.1, (hS.2 _ (by omega)).trans H.2.1, (hS.2 _ (by omega)).trans H.2.2.1, hM, H.2.2.2.2⟩, hS.1, fun j hj => hS.2 j (by omega)⟩
def upsN (st : Nat → Int32) : Nat → Nat
  | 0 => 0
  | b + 1 => if st b = 1 then upsN st b ||| 2 ^ b else upsN st b
theorem or_lt {a b k : Nat} (ha : a < 2 ^ k) (hb : b < k) : a ||| 2 ^ b < 2 ^ k := Nat.or_lt_two_pow ha (Nat.pow_lt_pow_right (by omega) hb)
theorem upsN_lt (st : Nat → Int32) : ∀ b, upsN st b < 2 ^ b := by
  intro b
  induction b with
  | zero => exact Nat.one_pos
  | succ b ih =>
    have : 2 ^ b < 2 ^ (b + 1) := Nat.pow_lt_pow_right (by omega) (by omega)
    unfold upsN
    split
    · exact or_lt (by omega) (by omega)
    · omega
theorem upsN_bit (st : Nat → Int32) : ∀ b i, (upsN st b).testBit i = (decide (i < b) && decide (st i = 1)) := by
  intro b
  induction b with
  | zero => intro i; simp [upsN]
  | succ b ih =>
    intro i
    unfold upsN
    split
    · next h =>
      rw [Nat.testBit_or, ih, Nat.testBit_two_pow]
      by_cases hi : i = b
      · subst hi; simp [h]
      · have : (i < b + 1) ↔ (i < b) := by omega
        simp [this, Ne.symm hi]
    · next h =>
      rw [ih]
      by_cases hi : i = b
      · subst hi; simp [h]
      · have : (i < b + 1) ↔ (i < b) := by omega
        simp [this]
theorem or_bit : ∀ m, m < 256 → ∀ b, b < 8 → nI m ||| ((1 : Int32) <<< (nI b &&& 31)) = nI (m ||| 2 ^ b) := by decide +kernel
theorem m_ups_l {G : SG} {d k : Nat} {h : AH} {g : GS} {P : Option Value → AH → Prop} (hG : GateAt h k g) (hP : P (some (.int (nI (upsN g.1 8)))) h) : ∀ (c i : Nat), i + c = 8 → SW G mX1_ups d 0 0 4 [.ref k, .int (nI (upsN g.1 i)), .int (nI i)] [] h P := by
  obtain ⟨h0, h1, h2, hM, hk⟩ := hG
  intro c
  induction c with
  | zero =>
    intro i hi
    have : i = 8 := by omega
    subst this
    refine sw_iload_n dX1_ups_4 rfl ?_
    refine sw_bipush (v := 8) dX1_ups_5 (by decide) ?_
    refine sw_cmpge (tgt := 32) dX1_ups_7 (by decide) (fun hc => ?_) (fun hc => ?_)
    · refine sw_iload_n dX1_ups_32 rfl ?_
      exact sw_ireturn dX1_ups_33 rfl rfl (hP)
    · exact absurd (nI_le (a := 8) (b := 8) (Nat.le_refl _) (by omega)) hc
  | succ c ih =>
    intro i hi
    refine sw_iload_n dX1_ups_4 rfl ?_
    refine sw_bipush (v := 8) dX1_ups_5 (by decide) ?_
    refine sw_cmpge (tgt := 32) dX1_ups_7 (by decide) (fun hc => ?_) (fun hc => ?_)
    · exact absurd hc (nI_ge (b := 8) (by omega) (by omega))
    · refine sw_aload_n dX1_ups_10 rfl ?_
      refine sw_getf dX1_ups_11 fl_X1_9 (h0) rfl ?_
      refine sw_iload_n dX1_ups_14 rfl ?_
      refine sw_iald dX1_ups_15 (h1) (vp_in_nI (by omega) (by omega)) (nIat (by omega) rfl) ?_
      refine sw_iconst (v := 1) dX1_ups_16 (by decide) ?_
      refine sw_cmpne (tgt := 26) dX1_ups_17 (by decide) (fun hb => ?_) (fun hb => ?_)
      · refine sw_iinc (v := nI (i + 1)) dX1_ups_26 rfl (nI_1 i) (by decide) rfl ?_
        refine sw_goto (tgt := 4) dX1_ups_29 (by decide) ?_
        have := ih (i + 1) (by omega)
        rw [upsN, if_neg hb] at this
        exact this
      · refine sw_iload_n dX1_ups_20 rfl ?_
        refine sw_iconst (v := 1) dX1_ups_21 (by decide) ?_
        refine sw_iload_n dX1_ups_22 rfl ?_
        refine sw_ishl dX1_ups_23 ?_
        refine sw_ior dX1_ups_24 ?_
        have hlt : upsN g.1 i < 256 := Nat.lt_of_lt_of_le (upsN_lt g.1 i) (Nat.pow_le_pow_right (by omega) (show i ≤ 8 by omega))
        rw [or_bit _ hlt i (by omega)]
        refine sw_istore_n dX1_ups_25 (by decide) rfl ?_
        refine sw_iinc (v := nI (i + 1)) dX1_ups_26 rfl (nI_1 i) (by decide) rfl ?_
        refine sw_goto (tgt := 4) dX1_ups_29 (by decide) ?_
        have := ih (i + 1) (by omega)
        rw [upsN, if_pos hb] at this
        exact this
theorem m_ups {G : SG} {d k : Nat} {h : AH} {g : GS} (hG : GateAt h k g) : SW G mX1_ups d 0 0 0 [.ref k, .retAddr 0, .retAddr 0] [] h (fun r h' => r = some (.int (nI (upsN g.1 8))) ∧ h' = h) := by
  refine sw_iconst (v := 0) dX1_ups_0 (by decide) ?_
  refine sw_istore_n dX1_ups_1 (by decide) rfl ?_
  refine sw_iconst (v := 0) dX1_ups_2 (by decide) ?_
  refine sw_istore_n dX1_ups_3 (by decide) rfl ?_
  exact m_ups_l hG ⟨rfl, rfl⟩ 8 0 rfl
/-- each goes to a backend -/
def goOk (es : List E3) : Prop := ∀ e ∈ es, ∃ c, c < 8 ∧ e.2.1 = nI c
def goE (es : List E3) (i : Nat) : Int32 := (es.getD i (0, 0, 0)).2.1
theorem goE_at {es : List E3} {i : Nat} {e : E3} (h : es[i]? = some e) : goE es i = e.2.1 := by
  unfold goE; rw [List.getD_eq_getElem?_getD, h]; rfl
/-- where a flow goes by what is remembered alone -/
def kgl (g : GS) (id : Int32) : Int32 := match fix id g.2.2.2 with
  | none => -1
  | some j => if g.1 (goE g.2.2.2 j).toNatClampNeg = 0 then -1 else goE g.2.2.2 j
theorem m_knownGoal {G : SG} {d k : Nat} {h : AH} {g : GS} {id : Int32} (hG : GateAt h k g) (hgo : goOk g.2.2.2) : SW G mX1_knownGoal (d + 1) 0 0 0 [.ref k, .int id, .retAddr 0] [] h (fun r h' => r = some (.int (kgl g id)) ∧ h' = h) := by
  obtain ⟨h0, h1, h2, hM, hk⟩ := hG
  have hM0 := hM
  obtain ⟨fl, go, ti, hA, hR⟩ := hM0
  have hn := hA.2.2.2.2
  refine sw_aload_n dX1_knownGoal_0 rfl ?_
  refine sw_getf dX1_knownGoal_1 fl_X1_21 (h0) rfl ?_
  refine sw_iload_n dX1_knownGoal_4 rfl ?_
  refine sw_cv1 dX1_knownGoal_5 cv_X1_39 (rc_of hA.1 rfl) (m_find hM) (fun r g1 hr => ?_)
  obtain ⟨rfl, rfl⟩ := hr
  rw [fndL_fix]
  unfold kgl
  cases hf : fix id g.2.2.2 with
  | none =>
    simp only []
    refine sw_istore_n dX1_knownGoal_8 (by decide) rfl ?_
    refine sw_iload_n dX1_knownGoal_9 rfl ?_
    refine sw_iconst (v := (-1)) dX1_knownGoal_10 (by decide) ?_
    refine sw_cmpeq (tgt := 31) dX1_knownGoal_11 (by decide) (fun hc => ?_) (fun hc => ?_)
    · refine sw_iconst (v := (-1)) dX1_knownGoal_31 (by decide) ?_
      exact sw_ireturn dX1_knownGoal_32 rfl rfl (⟨rfl, rfl⟩)
    · exact absurd rfl hc
  | some j =>
    obtain ⟨e, he, hid⟩ := fix_some hf
    have hj : j < g.2.2.2.length := (List.getElem?_eq_some_iff.mp he).1
    obtain ⟨c, hc8, hce⟩ := hgo e (List.mem_of_getElem? he)
    simp only [Nat.zero_add]
    rw [goE_at he]
    refine sw_istore_n dX1_knownGoal_8 (by decide) rfl ?_
    refine sw_iload_n dX1_knownGoal_9 rfl ?_
    refine sw_iconst (v := (-1)) dX1_knownGoal_10 (by decide) ?_
    refine sw_cmpeq (tgt := 31) dX1_knownGoal_11 (by decide) (fun hc => ?_) (fun hc => ?_)
    · exact absurd hc (nI_ne_m1 (by omega))
    · refine sw_aload_n dX1_knownGoal_14 rfl ?_
      refine sw_getf dX1_knownGoal_15 fl_X1_9 (h0) rfl ?_
      refine sw_aload_n dX1_knownGoal_18 rfl ?_
      refine sw_getf dX1_knownGoal_19 fl_X1_21 (h0) rfl ?_
      refine sw_getf dX1_knownGoal_22 fl_X1_43 (hA.1) rfl ?_
      refine sw_iload_n dX1_knownGoal_25 rfl ?_
      refine sw_iald dX1_knownGoal_26 (hA.2.2.1) (vp_in_nI (by omega) (by omega)) (nIat (by omega) (hR j e he).2.1) ?_
      refine sw_iald dX1_knownGoal_27 (h1) (by rw [hce]; exact vp_in_nI hc8 (by omega)) (rfl) ?_
      refine sw_ifne (tgt := 33) dX1_knownGoal_28 (by decide) (fun hb => ?_) (fun hb => ?_)
      · refine sw_aload_n dX1_knownGoal_33 rfl ?_
        refine sw_getf dX1_knownGoal_34 fl_X1_21 (h0) rfl ?_
        refine sw_getf dX1_knownGoal_37 fl_X1_43 (hA.1) rfl ?_
        refine sw_iload_n dX1_knownGoal_40 rfl ?_
        refine sw_iald dX1_knownGoal_41 (hA.2.2.1) (vp_in_nI (by omega) (by omega)) (nIat (by omega) (hR j e he).2.1) ?_
        exact sw_ireturn dX1_knownGoal_42 rfl rfl (⟨by rw [if_neg hb], rfl⟩)
      · refine sw_iconst (v := (-1)) dX1_knownGoal_31 (by decide) ?_
        exact sw_ireturn dX1_knownGoal_32 rfl rfl (⟨by rw [if_pos hb], rfl⟩)
/-- a gateway's cells, whatever they hold -/
def GateS (h : AH) (k : Nat) : Prop := ∃ (v : Int32) (st kp : Nat → Int32), h[k]? = some (.inr (0, [.ref (k + 1), .ref (k + 2), .ref (k + 3), .int v])) ∧ h[k + 1]? = some (.inl (0, 8, .inl st)) ∧ h[k + 2]? = some (.inl (0, 97, .inl kp)) ∧ MemS h (k + 3)
theorem GateAt.S {h : AH} {k : Nat} {g : GS} (H : GateAt h k g) : GateS h k := ⟨_, _, _, H.1, H.2.1, H.2.2.1, H.2.2.2.1.S⟩
theorem GateS.kept {h h' : AH} {k : Nat} (H : GateS h k) (hk : ∀ j, k ≤ j → j < k + 7 → h'[j]? = h[j]?) : GateS h' k := by
  obtain ⟨v, st, kp, a, b, c, d⟩ := H
  exact ⟨v, st, kp, (hk _ (by omega) (by omega)).trans a, (hk _ (by omega) (by omega)).trans b, (hk _ (by omega) (by omega)).trans c, d.kept (fun j x y => hk j (by omega) (by omega))⟩
/-- the first n of a row -/
def cpyF (n : Nat) (f g : Nat → Int32) : Nat → Int32 := fun k => if k < n then f k else g k
/-- two gateways that agree where it counts -/
def gEq (a b : GS) : Prop := (∀ i, i < 8 → a.1 i = b.1 i) ∧ (∀ i, i < 97 → a.2.1 i = b.2.1 i) ∧ a.2.2 = b.2.2
theorem m_gcopy {G : SG} {d k q : Nat} {h : AH} {g : GS} (hal : sg_al G = false) (hK : GateS h k) (hQ : GateAt h q g) (hkq : k + 7 ≤ q ∨ q + 7 ≤ k) : SW G mX1_copyFrom (d + 2) 0 0 0 [.ref k, .ref q] [] h (fun r h' => r = none ∧ (∃ g', gEq g' g ∧ GateAt h' k g') ∧ Same7 h h' k) := by
  obtain ⟨v, st, kp, h0, h1, h2, hM⟩ := hK
  obtain ⟨q0, q1, q2, hQM, hqk⟩ := hQ
  refine sw_aload_n dX1_copyFrom_0 rfl ?_
  refine sw_getf dX1_copyFrom_1 fl_X1_9 (q0) rfl ?_
  refine sw_iconst (v := 0) dX1_copyFrom_4 (by decide) ?_
  refine sw_aload_n dX1_copyFrom_5 rfl ?_
  refine sw_getf dX1_copyFrom_6 fl_X1_9 (h0) rfl ?_
  refine sw_iconst (v := 0) dX1_copyFrom_9 (by decide) ?_
  refine sw_bipush (v := 8) dX1_copyFrom_10 (by decide) ?_
  refine sw_cpy dX1_copyFrom_12 w_247 hal (q1) (h1) (by decide) (by decide) (by decide) (fun g1 z1 e1 o1 => ?_)
  have h0 := (o1 _ (by omega)).trans h0
  have h2 := (o1 _ (by omega)).trans h2
  have q0 := (o1 _ (by omega)).trans q0
  have q2 := (o1 _ (by omega)).trans q2
  have hM := hM.kept (h' := g1) (fun j a b => o1 j (by omega))
  have hQM := hQM.kept (h' := g1) (fun j a b => o1 j (by omega))
  refine sw_aload_n dX1_copyFrom_15 rfl ?_
  refine sw_getf dX1_copyFrom_16 fl_X1_15 (q0) rfl ?_
  refine sw_iconst (v := 0) dX1_copyFrom_19 (by decide) ?_
  refine sw_aload_n dX1_copyFrom_20 rfl ?_
  refine sw_getf dX1_copyFrom_21 fl_X1_15 (h0) rfl ?_
  refine sw_iconst (v := 0) dX1_copyFrom_24 (by decide) ?_
  refine sw_bipush (v := 97) dX1_copyFrom_25 (by decide) ?_
  refine sw_cpy dX1_copyFrom_27 w_247 hal (q2) (h2) (by decide) (by decide) (by decide) (fun g2 z2 e2 o2 => ?_)
  have h0 := (o2 _ (by omega)).trans h0
  have e1 := (o2 _ (by omega)).trans e1
  have q0 := (o2 _ (by omega)).trans q0
  have hM := hM.kept (h' := g2) (fun j a b => o2 j (by omega))
  have hQM := hQM.kept (h' := g2) (fun j a b => o2 j (by omega))
  obtain ⟨v9, f9, g9, t9, hm0, -⟩ := id hM
  refine sw_aload_n dX1_copyFrom_30 rfl ?_
  refine sw_getf dX1_copyFrom_31 fl_X1_21 (h0) rfl ?_
  refine sw_aload_n dX1_copyFrom_34 rfl ?_
  refine sw_getf dX1_copyFrom_35 fl_X1_21 (q0) rfl ?_
  refine sw_cv1 dX1_copyFrom_38 cv_X1_35 (rc_of hm0 rfl) (m_mcopy hal hM hQM (by omega)) (fun r g3 hr => ?_)
  obtain ⟨rfl, hM3, hS3⟩ := hr
  have h0 := (hS3.2 _ (by omega)).trans h0
  have e1 := (hS3.2 _ (by omega)).trans e1
  have e2 := (hS3.2 _ (by omega)).trans e2
  have q0 := (hS3.2 _ (by omega)).trans q0
  refine sw_aload_n dX1_copyFrom_41 rfl ?_
  refine sw_aload_n dX1_copyFrom_42 rfl ?_
  refine sw_getf dX1_copyFrom_43 fl_X1_25 (q0) rfl ?_
  refine sw_putz dX1_copyFrom_46 fl_X1_25 (hqk) (h0) (Nat.le_of_ble_eq_true rfl) (fun g4 z4 e4 o4 => ?_)
  refine sw_return dX1_copyFrom_49 rfl ⟨rfl, ⟨(fun k => if k < (8 : Int32).toNatClampNeg then g.1 k else st k, fun k => if k < (97 : Int32).toNatClampNeg then g.2.1 k else kp k, g.2.2.1, g.2.2.2), ⟨?_, ?_, rfl⟩, e4, (o4 _ (by omega)).trans e1, (o4 _ (by omega)).trans e2, hM3.kept (fun j a b => o4 j (by omega)), hqk⟩, z4.trans (hS3.1.trans (z2.trans z1)), fun j hj => (o4 j (by omega)).trans ((hS3.2 j (by omega)).trans ((o2 j (by omega)).trans (o1 j (by omega))))⟩
  · intro i hi
    show (if i < (8 : Int32).toNatClampNeg then g.1 i else st i) = g.1 i
    rw [show (8 : Int32).toNatClampNeg = 8 by decide, if_pos hi]
  · intro i hi
    show (if i < (97 : Int32).toNatClampNeg then g.2.1 i else kp i) = g.2.1 i
    rw [show (97 : Int32).toNatClampNeg = 97 by decide, if_pos hi]
