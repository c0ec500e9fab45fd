theorem fl_ok2 {x : UInt32} (h : decide (x &&& 2147483647 ≤ 2139095040) = true) : vf_n32 x := by unfold vf_n32; exact of_decide_eq_true h
def btV (x : UInt32) : Int32 := if Op.cmpValue (FP.fcmp x FP.fconst0) .g ≤ 0 then 0 else ((btF 126 127 x).1 <<< ((23 : Int32) &&& 31)) + FP.f2i (FP.fmul (btF 126 127 x).2 1258291200) - 8388608
def btO (x : UInt32) : Bool := decide (Op.cmpValue (FP.fcmp x FP.fconst0) .g ≤ 0) || (btG 126 x && decide (FP.fmul (btF 126 127 x).2 1258291200 &&& 2147483647 ≤ 2139095040))
def btT (k p : Nat) : UInt32 := FP.fdiv (FP.i2f (nI k)) (FP.i2f (nI p))
def btC (k p : Nat) : Bool := decide (btT k p &&& 2147483647 ≤ 2139095040) && btO (btT k p) && decide (btV (btT k p) = (btT k p).toInt32)
theorem btC_all : (szN.all fun p => (List.range (p + 1)).all fun k => btC k p) = true := by decide +kernel
theorem btC_at {k p : Nat} (hp : p ∈ szN) (hk : k ≤ p) : vf_n32 (btT k p) ∧ btO (btT k p) = true ∧ btV (btT k p) = (btT k p).toInt32 := by
  have h := List.all_eq_true.mp (List.all_eq_true.mp btC_all p hp) k (List.mem_range.mpr (by omega))
  unfold btC at h
  rw [Bool.and_eq_true, Bool.and_eq_true, decide_eq_true_eq, decide_eq_true_eq] at h
  exact ⟨h.1.1, h.1.2, h.2⟩
theorem m_bitsOf {G : SG} {d : Nat} {h : AH} {x : UInt32} (hO : btO x = true) : SW G mX8_bitsOf d 0 0 0 [.float x, .retAddr 0, .retAddr 0, .retAddr 0] [] h (fun r h' => r = some (.int (btV x)) ∧ h' = h) := by
  unfold btV
  unfold btO at hO
  refine sw_fload_n dX8_bitsOf_0 rfl ?_
  refine sw_fconst0 dX8_bitsOf_1 ?_
  refine sw_fcmp dX8_bitsOf_2 ?_
  refine sw_ifgt (tgt := 8) dX8_bitsOf_3 (by decide) (fun h1 => ?_) (fun h1 => ?_)
  · have hc : ¬ Op.cmpValue (FP.fcmp x FP.fconst0) .g ≤ 0 := by
      rw [Int32.le_iff_toInt_le]
      have := Int32.lt_iff_toInt_lt.mp h1
      omega
    rw [if_neg hc]
    rw [decide_eq_false hc, Bool.false_or, Bool.and_eq_true] at hO
    have loop : ∀ (c i : Nat) (e : Int32) (y : UInt32), i + c = 126 → btG c y = true → btF c e y = btF 126 127 x → SW G mX8_bitsOf d 0 0 15 [.float x, .int e, .float y, .int (nI i)] [] h (fun r h' => r = some (.int (((btF 126 127 x).1 <<< ((23 : Int32) &&& 31)) + FP.f2i (FP.fmul (btF 126 127 x).2 1258291200) - 8388608)) ∧ h' = h) := by
      have fin : ∀ (i : Nat), SW G mX8_bitsOf d 0 0 40 [.float x, .int (btF 126 127 x).1, .float (btF 126 127 x).2, .int (nI i)] [] h (fun r h' => r = some (.int (((btF 126 127 x).1 <<< ((23 : Int32) &&& 31)) + FP.f2i (FP.fmul (btF 126 127 x).2 1258291200) - 8388608)) ∧ h' = h) := by
        intro i
        refine sw_iload_n dX8_bitsOf_40 rfl ?_
        refine sw_bipush (v := 23) dX8_bitsOf_41 (by decide) ?_
        refine sw_ishl dX8_bitsOf_43 ?_
        refine sw_fload_n dX8_bitsOf_44 rfl ?_
        refine sw_ldcfw dX8_bitsOf_45 w_596 ?_
        refine sw_fmul dX8_bitsOf_48 (fl_ok2 hO.2) ?_
        refine sw_f2i dX8_bitsOf_49 ?_
        refine sw_iadd dX8_bitsOf_50 ?_
        refine sw_ldcw dX8_bitsOf_51 w_597 ?_
        refine sw_isub dX8_bitsOf_54 ?_
        exact sw_ireturn dX8_bitsOf_55 rfl rfl (⟨rfl, rfl⟩)
      intro c
      induction c with
      | zero =>
        intro i e y hi hg he
        have : i = 126 := by omega
        subst this
        refine sw_iload_n dX8_bitsOf_15 rfl ?_
        refine sw_bipush (v := 126) dX8_bitsOf_16 (by decide) ?_
        refine sw_cmpge (tgt := 40) dX8_bitsOf_18 (by decide) (fun hc => ?_) (fun hc => ?_)
        · have := fin 126
          rw [← he] at this ⊢
          exact this
        · exact absurd (nI_le (a := 126) (b := 126) (Nat.le_refl _) (by omega)) hc
      | succ c ih =>
        intro i e y hi hg he
        refine sw_iload_n dX8_bitsOf_15 rfl ?_
        refine sw_bipush (v := 126) dX8_bitsOf_16 (by decide) ?_
        refine sw_cmpge (tgt := 40) dX8_bitsOf_18 (by decide) (fun hc => ?_) (fun hc => ?_)
        · exact absurd hc (nI_ge (b := 126) (by omega) (by omega))
        · refine sw_fload_n dX8_bitsOf_21 rfl ?_
          refine sw_fconst1 dX8_bitsOf_22 ?_
          refine sw_fcmp dX8_bitsOf_23 ?_
          refine sw_ifge (tgt := 40) dX8_bitsOf_24 (by decide) (fun h2 => ?_) (fun h2 => ?_)
          · rw [btF, if_pos h2] at he
            have := fin i
            rw [← he] at this ⊢
            exact this
          · have h2 : ¬ 0 ≤ Op.cmpValue (FP.fcmp y FP.fconst1) .g := h2
            rw [btF, if_neg h2] at he
            rw [btG, if_neg h2, Bool.and_eq_true] at hg
            refine sw_fload_n dX8_bitsOf_27 rfl ?_
            refine sw_fconst2 dX8_bitsOf_28 ?_
            refine sw_fmul dX8_bitsOf_29 (fl_ok2 hg.1) ?_
            refine sw_fstore_n dX8_bitsOf_30 (by decide) rfl ?_
            refine sw_iinc (v := e + (-1)) dX8_bitsOf_31 rfl (rfl) (by decide) rfl ?_
            refine sw_iinc (v := nI (i + 1)) dX8_bitsOf_34 rfl (nI_1 i) (by decide) rfl ?_
            refine sw_goto (tgt := 15) dX8_bitsOf_37 (by decide) ?_
            exact ih (i + 1) _ _ (by omega) hg.2 he
    refine sw_bipush (v := 127) dX8_bitsOf_8 (by decide) ?_
    refine sw_istore_n dX8_bitsOf_10 (by decide) rfl ?_
    refine sw_fload_n dX8_bitsOf_11 rfl ?_
    refine sw_fstore_n dX8_bitsOf_12 (by decide) rfl ?_
    refine sw_iconst (v := 0) dX8_bitsOf_13 (by decide) ?_
    refine sw_istore_n dX8_bitsOf_14 (by decide) rfl ?_
    exact loop 126 0 127 x rfl hO.1 rfl
  · have hc : Op.cmpValue (FP.fcmp x FP.fconst0) .g ≤ 0 := by
      rw [Int32.le_iff_toInt_le]
      have := mt Int32.lt_iff_toInt_lt.mpr h1
      omega
    rw [if_pos hc]
    refine sw_iconst (v := 0) dX8_bitsOf_6 (by decide) ?_
    exact sw_ireturn dX8_bitsOf_7 rfl rfl (⟨rfl, rfl⟩)
def c_bits (s : CS) (g b : Int32) : Int32 := if (0 ≤ g ∧ g ≤ 3) ∧ (0 ≤ b ∧ b < nI s.1.n) then (btT (cntS (wT s.1 (wU s.1 g.toNatClampNeg)) b s.1.p) s.1.p).toInt32 else -1
theorem k_bits {G : SG} {d : Nat} {h : AH} {s : CS} {g j : Int32} (hC : CA h s) (hI : wOk s.1) (hp : s.1.p ∈ szN) : SW G mX8_shareBits (d + 8) 0 0 0 [.ref 0, .int g, .int j, .retAddr 0] [] h (fun r h' => r = some (.int (c_bits s g j)) ∧ CA h' s ∧ SameC h h') := by
  obtain ⟨b, q, vb, K, nm, H⟩ := id hC
  obtain ⟨hbq, h0, hW, hQ, hT, hL, hB⟩ := id H
  have hp2 := hI.1
  refine sw_aload_n dX8_shareBits_0 rfl ?_
  refine sw_iload_n dX8_shareBits_1 rfl ?_
  refine sw_iload_n dX8_shareBits_2 rfl ?_
  refine sw_cv2 dX8_shareBits_3 cv_X8_202 (rc_of h0 rfl) (k_share hC hI) (fun r g1 hr => ?_)
  obtain ⟨rfl, hC1, HS⟩ := hr
  obtain ⟨b, q, vb, K, nm, H⟩ := id hC1
  obtain ⟨hbq, h0, hW, hQ, hT, hL, hB⟩ := id H
  unfold c_bits c_share
  by_cases hv : (0 ≤ g ∧ g ≤ 3) ∧ (0 ≤ j ∧ j < nI s.1.n)
  · rw [if_pos hv, if_pos hv]
    have hle := cntS_le (wT s.1 (wU s.1 g.toNatClampNeg)) j s.1.p
    generalize cntS (wT s.1 (wU s.1 g.toNatClampNeg)) j s.1.p = k at hle
    obtain ⟨q1, q2, q3⟩ := btC_at hp hle
    refine sw_istore_n dX8_shareBits_6 (by decide) rfl ?_
    refine sw_iload_n dX8_shareBits_7 rfl ?_
    refine sw_iconst (v := (-1)) dX8_shareBits_8 (by decide) ?_
    refine sw_cmpne (tgt := 16) dX8_shareBits_9 (by decide) (fun h1 => ?_) (fun h1 => ?_)
    · refine sw_iload_n dX8_shareBits_16 rfl ?_
      refine sw_i2f dX8_shareBits_17 ?_
      refine sw_aload_n dX8_shareBits_18 rfl ?_
      refine sw_getf dX8_shareBits_19 fl_X8_28 (h0) rfl ?_
      refine sw_getf dX8_shareBits_22 fl_X8_82 (hW.1) rfl ?_
      refine sw_i2f dX8_shareBits_25 ?_
      refine sw_fdiv dX8_shareBits_26 (q1) ?_
      refine sw_pcs1 dX8_shareBits_27 cs_X8_205 (m_bitsOf q2) ?_
      exact sw_ireturn dX8_shareBits_30 rfl rfl (⟨by rw [← q3], hC1, HS⟩)
    · exact absurd h1 (nI_ne_m1 (by omega))
  · rw [if_neg hv, if_neg hv]
    refine sw_istore_n dX8_shareBits_6 (by decide) rfl ?_
    refine sw_iload_n dX8_shareBits_7 rfl ?_
    refine sw_iconst (v := (-1)) dX8_shareBits_8 (by decide) ?_
    refine sw_cmpne (tgt := 16) dX8_shareBits_9 (by decide) (fun h1 => ?_) (fun h1 => ?_)
    · exact absurd rfl h1
    · refine sw_iconst (v := (-1)) dX8_shareBits_12 (by decide) ?_
      refine sw_goto (tgt := 30) dX8_shareBits_13 (by decide) ?_
      exact sw_ireturn dX8_shareBits_30 rfl rfl (⟨rfl, hC1, HS⟩)
/-! flows -/
def c_rem (s : CS) (g f v : Int32) : Int32 := if (0 ≤ g ∧ g ≤ 3) ∧ (0 ≤ f ∧ f ≤ 9999) then (match fix f (s.1.gs g.toNatClampNeg).2.2.2 with
  | none => -1
  | some j => if v = 0 then goE (s.1.gs g.toNatClampNeg).2.2.2 j else if v = 1 then tkE (s.1.gs g.toNatClampNeg).2.2.2 j else -1) else -1
theorem k_rem {G : SG} {d : Nat} {h : AH} {s : CS} {g f v : Int32} (hC : CA h s) : SW G mX8_remembers (d + 8) 0 0 0 [.ref 0, .int g, .int f, .int v, .retAddr 0, .retAddr 0] [] h (fun r h' => r = some (.int (c_rem s g f v)) ∧ h' = h) := by
  obtain ⟨b, q, vb, K, nm, H⟩ := hC
  obtain ⟨hbq, h0, hW, hQ, hT, hL, hB⟩ := id H
  have hb : 9 ≤ b := by omega
  unfold c_rem
  refine sw_iload_n dX8_remembers_0 rfl ?_
  refine sw_pcs1 dX8_remembers_1 cs_X8_112 (m_isGate) ?_
  refine sw_ifeq (tgt := 14) dX8_remembers_4 (by decide) (fun h1 => ?_) (fun h1 => ?_)
  · rw [if_neg (fun q => bz_eq0.mp h1 q.1)]
    refine sw_iconst (v := (-1)) dX8_remembers_14 (by decide) ?_
    exact sw_ireturn dX8_remembers_15 rfl rfl (⟨rfl, rfl⟩)
  · have h1 := bz_eq1.mp h1
    refine sw_iload_n dX8_remembers_7 rfl ?_
    refine sw_pcs1 dX8_remembers_8 cs_X8_140 (m_isFlow) ?_
    refine sw_ifne (tgt := 16) dX8_remembers_11 (by decide) (fun h2 => ?_) (fun h2 => ?_)
    · have h2 := bz_eq1.mp h2
      rw [if_pos ⟨h1, h2⟩]
      obtain ⟨gi, hgi, rfl⟩ := ga_of h1
      rw [nI_clamp (by omega)]
      obtain ⟨ff, hf, hf4⟩ := hW.2.2.2.1
      have hG := hW.2.2.2.2.2 gi hgi
      obtain ⟨fl, go, ti, hA, hR⟩ := id hG.2.2.2.1
      have h16 := hA.2.2.2.2
      refine sw_aload_n dX8_remembers_16 rfl ?_
      refine sw_getf dX8_remembers_17 fl_X8_28 (h0) rfl ?_
      refine sw_getf dX8_remembers_20 fl_X8_147 (hW.1) rfl ?_
      refine sw_iload_n dX8_remembers_23 rfl ?_
      refine sw_aald dX8_remembers_24 (hf) (vp_in_nI (by omega) (by omega)) (nIat (by omega) (hf4 gi hgi)) ?_
      refine sw_getf dX8_remembers_25 fl_X8_229 (hG.1) rfl ?_
      refine sw_astore dX8_remembers_28 (by decide) rfl ?_
      refine sw_aload dX8_remembers_30 rfl ?_
      refine sw_iload_n dX8_remembers_32 rfl ?_
      refine sw_pcv1 dX8_remembers_33 cv_X8_233 (rc_of hA.1 rfl) (m_find hG.2.2.2.1) ?_
      rw [fndL_fix]
      cases hx : fix f (s.1.gs gi).2.2.2 with
      | none =>
        simp only []
        refine sw_istore dX8_remembers_36 (by decide) rfl ?_
        refine sw_iload dX8_remembers_38 rfl ?_
        refine sw_iconst (v := (-1)) dX8_remembers_40 (by decide) ?_
        refine sw_cmpne (tgt := 46) dX8_remembers_41 (by decide) (fun hq => ?_) (fun hq => ?_)
        · exact absurd rfl hq
        · refine sw_iconst (v := (-1)) dX8_remembers_44 (by decide) ?_
          exact sw_ireturn dX8_remembers_45 rfl rfl (⟨rfl, rfl⟩)
      | some j =>
        simp only [Nat.zero_add]
        obtain ⟨e, he, -⟩ := fix_some hx
        have hj : j < (s.1.gs gi).2.2.2.length := (List.getElem?_eq_some_iff.mp he).1
        obtain ⟨r1, r2, r3⟩ := hR j e he
        refine sw_istore dX8_remembers_36 (by decide) rfl ?_
        refine sw_iload dX8_remembers_38 rfl ?_
        refine sw_iconst (v := (-1)) dX8_remembers_40 (by decide) ?_
        refine sw_cmpne (tgt := 46) dX8_remembers_41 (by decide) (fun hq => ?_) (fun hq => ?_)
        · refine sw_iload_n dX8_remembers_46 rfl ?_
          refine sw_ifne (tgt := 59) dX8_remembers_47 (by decide) (fun hv0 => ?_) (fun hv0 => ?_)
          · rw [if_neg hv0]
            refine sw_iload_n dX8_remembers_59 rfl ?_
            refine sw_iconst (v := 1) dX8_remembers_60 (by decide) ?_
            refine sw_cmpne (tgt := 75) dX8_remembers_61 (by decide) (fun hv1 => ?_) (fun hv1 => ?_)
            · rw [if_neg hv1]
              refine sw_iconst (v := (-1)) dX8_remembers_75 (by decide) ?_
              exact sw_ireturn dX8_remembers_76 rfl rfl (⟨rfl, rfl⟩)
            · rw [if_pos hv1]
              refine sw_aload dX8_remembers_64 rfl ?_
              refine sw_getf dX8_remembers_66 fl_X8_242 (hA.1) rfl ?_
              refine sw_iload dX8_remembers_69 rfl ?_
              refine sw_iald dX8_remembers_71 (hA.2.2.2.1) (vp_in_nI (by omega) (by omega)) (nIat (by omega) (r3.trans (tkE_at he).symm)) ?_
              refine sw_goto (tgt := 76) dX8_remembers_72 (by decide) ?_
              exact sw_ireturn dX8_remembers_76 rfl rfl (⟨rfl, rfl⟩)
          · rw [if_pos hv0]
            refine sw_aload dX8_remembers_50 rfl ?_
            refine sw_getf dX8_remembers_52 fl_X8_239 (hA.1) rfl ?_
            refine sw_iload dX8_remembers_55 rfl ?_
            refine sw_iald dX8_remembers_57 (hA.2.2.1) (vp_in_nI (by omega) (by omega)) (nIat (by omega) (r2.trans (goE_at he).symm)) ?_
            exact sw_ireturn dX8_remembers_58 rfl rfl (⟨rfl, rfl⟩)
        · exact absurd hq (nI_ne_m1 (by omega))
    · rw [if_neg (fun q => bz_eq0.mp h2 q.2)]
      refine sw_iconst (v := (-1)) dX8_remembers_14 (by decide) ?_
      exact sw_ireturn dX8_remembers_15 rfl rfl (⟨rfl, rfl⟩)
def c_flows (s : CS) (g b : Int32) : Int32 := if 0 ≤ g ∧ g ≤ 3 then (if b = -1 then nI (s.1.gs g.toNatClampNeg).2.2.2.length else if 0 ≤ b ∧ b < nI s.1.n then nI (cntL b (s.1.gs g.toNatClampNeg).2.2.2) else -1) else -1
theorem k_flows {G : SG} {d : Nat} {h : AH} {s : CS} {g bk : Int32} (hC : CA h s) : SW G mX8_flows (d + 8) 0 0 0 [.ref 0, .int g, .int bk, .retAddr 0] [] h (fun r h' => r = some (.int (c_flows s g bk)) ∧ h' = h) := by
  obtain ⟨b, q, vb, K, nm, H⟩ := hC
  obtain ⟨hbq, h0, hW, hQ, hT, hL, hB⟩ := id H
  unfold c_flows
  refine sw_iload_n dX8_flows_0 rfl ?_
  refine sw_pcs1 dX8_flows_1 cs_X8_112 (m_isGate) ?_
  refine sw_ifne (tgt := 9) dX8_flows_4 (by decide) (fun h1 => ?_) (fun h1 => ?_)
  · have h1 := bz_eq1.mp h1
    rw [if_pos h1]
    obtain ⟨gi, hgi, rfl⟩ := ga_of h1
    rw [nI_clamp (by omega)]
    obtain ⟨ff, hf, hf4⟩ := hW.2.2.2.1
    have hG := hW.2.2.2.2.2 gi hgi
    obtain ⟨fl, go, ti, hA, hR⟩ := id hG.2.2.2.1
    refine sw_aload_n dX8_flows_9 rfl ?_
    refine sw_getf dX8_flows_10 fl_X8_28 (h0) rfl ?_
    refine sw_getf dX8_flows_13 fl_X8_147 (hW.1) rfl ?_
    refine sw_iload_n dX8_flows_16 rfl ?_
    refine sw_aald dX8_flows_17 (hf) (vp_in_nI (by omega) (by omega)) (nIat (by omega) (hf4 gi hgi)) ?_
    refine sw_getf dX8_flows_18 fl_X8_229 (hG.1) rfl ?_
    refine sw_astore_n dX8_flows_21 (by decide) rfl ?_
    refine sw_iload_n dX8_flows_22 rfl ?_
    refine sw_iconst (v := (-1)) dX8_flows_23 (by decide) ?_
    refine sw_cmpne (tgt := 32) dX8_flows_24 (by decide) (fun h2 => ?_) (fun h2 => ?_)
    · rw [if_neg h2]
      refine sw_aload_n dX8_flows_32 rfl ?_
      refine sw_getf dX8_flows_33 fl_X8_28 (h0) rfl ?_
      refine sw_iload_n dX8_flows_36 rfl ?_
      refine sw_pcv1 dX8_flows_37 cv_X8_106 (rc_of hW.1 rfl) (m_isBackend hW) ?_
      refine sw_ifeq (tgt := 51) dX8_flows_40 (by decide) (fun h3 => ?_) (fun h3 => ?_)
      · rw [if_neg (bz_eq0.mp h3)]
        refine sw_iconst (v := (-1)) dX8_flows_51 (by decide) ?_
        exact sw_ireturn dX8_flows_52 rfl rfl (⟨rfl, rfl⟩)
      · rw [if_pos (bz_eq1.mp h3)]
        refine sw_aload_n dX8_flows_43 rfl ?_
        refine sw_iload_n dX8_flows_44 rfl ?_
        refine sw_pcv1 dX8_flows_45 cv_X8_248 (rc_of hA.1 rfl) (m_countTo hG.2.2.2.1) ?_
        refine sw_goto (tgt := 52) dX8_flows_48 (by decide) ?_
        exact sw_ireturn dX8_flows_52 rfl rfl (⟨rfl, rfl⟩)
    · rw [if_pos h2]
      refine sw_aload_n dX8_flows_27 rfl ?_
      refine sw_getf dX8_flows_28 fl_X8_245 (hA.1) rfl ?_
      exact sw_ireturn dX8_flows_31 rfl rfl (⟨rfl, rfl⟩)
  · rw [if_neg (bz_eq0.mp h1)]
    refine sw_iconst (v := (-1)) dX8_flows_7 (by decide) ?_
    exact sw_ireturn dX8_flows_8 rfl rfl (⟨rfl, rfl⟩)
def c_flowAt (s : CS) (g k : Int32) : Int32 := if (0 ≤ g ∧ g ≤ 3) ∧ ¬ k < 0 ∧ k < nI (s.1.gs g.toNatClampNeg).2.2.2.length then flE (s.1.gs g.toNatClampNeg).2.2.2 k.toNatClampNeg else -1
theorem k_flowAt {G : SG} {d : Nat} {h : AH} {s : CS} {g k : Int32} (hC : CA h s) : SW G mX8_flowAt (d + 8) 0 0 0 [.ref 0, .int g, .int k] [] h (fun r h' => r = some (.int (c_flowAt s g k)) ∧ h' = h) := by
  obtain ⟨b, q, vb, K, nm, H⟩ := hC
  obtain ⟨hbq, h0, hW, hQ, hT, hL, hB⟩ := id H
  unfold c_flowAt
  refine sw_iload_n dX8_flowAt_0 rfl ?_
  refine sw_pcs1 dX8_flowAt_1 cs_X8_112 (m_isGate) ?_
  refine sw_ifeq (tgt := 30) dX8_flowAt_4 (by decide) (fun h1 => ?_) (fun h1 => ?_)
  · rw [if_neg (fun q => bz_eq0.mp h1 q.1)]
    refine sw_iconst (v := (-1)) dX8_flowAt_30 (by decide) ?_
    exact sw_ireturn dX8_flowAt_31 rfl rfl (⟨rfl, rfl⟩)
  · have h1 := bz_eq1.mp h1
    obtain ⟨gi, hgi, rfl⟩ := ga_of h1
    rw [nI_clamp (show gi < 2 ^ 31 by omega)]
    obtain ⟨ff, hf, hf4⟩ := hW.2.2.2.1
    have hG := hW.2.2.2.2.2 gi hgi
    obtain ⟨fl, go, ti, hA, hR⟩ := id hG.2.2.2.1
    have h16 := hA.2.2.2.2
    refine sw_iload_n dX8_flowAt_7 rfl ?_
    refine sw_iflt (tgt := 30) dX8_flowAt_8 (by decide) (fun h2 => ?_) (fun h2 => ?_)
    · rw [if_neg (fun q => q.2.1 h2)]
      refine sw_iconst (v := (-1)) dX8_flowAt_30 (by decide) ?_
      exact sw_ireturn dX8_flowAt_31 rfl rfl (⟨rfl, rfl⟩)
    · refine sw_iload_n dX8_flowAt_11 rfl ?_
      refine sw_aload_n dX8_flowAt_12 rfl ?_
      refine sw_getf dX8_flowAt_13 fl_X8_28 (h0) rfl ?_
      refine sw_getf dX8_flowAt_16 fl_X8_147 (hW.1) rfl ?_
      refine sw_iload_n dX8_flowAt_19 rfl ?_
      refine sw_aald dX8_flowAt_20 (hf) (vp_in_nI (by omega) (by omega)) (nIat (by omega) (hf4 gi hgi)) ?_
      refine sw_getf dX8_flowAt_21 fl_X8_229 (hG.1) rfl ?_
      refine sw_getf dX8_flowAt_24 fl_X8_245 (hA.1) rfl ?_
      refine sw_cmplt (tgt := 32) dX8_flowAt_27 (by decide) (fun h3 => ?_) (fun h3 => ?_)
      · rw [if_pos ⟨h1, h2, h3⟩]
        obtain ⟨j, hj, rfl⟩ := nI_of h2
        have hj2 := (nI_ltI hj (by omega)).mp h3
        obtain ⟨e, he⟩ := getE hj2
        refine sw_aload_n dX8_flowAt_32 rfl ?_
        refine sw_getf dX8_flowAt_33 fl_X8_28 (h0) rfl ?_
        refine sw_getf dX8_flowAt_36 fl_X8_147 (hW.1) rfl ?_
        refine sw_iload_n dX8_flowAt_39 rfl ?_
        refine sw_aald dX8_flowAt_40 (hf) (vp_in_nI (by omega) (by omega)) (nIat (by omega) (hf4 gi hgi)) ?_
        refine sw_getf dX8_flowAt_41 fl_X8_229 (hG.1) rfl ?_
        refine sw_getf dX8_flowAt_44 fl_X8_251 (hA.1) rfl ?_
        refine sw_iload_n dX8_flowAt_47 rfl ?_
        refine sw_iald dX8_flowAt_48 (hA.2.1) (vp_in_nI (by omega) (by omega)) (nIat (by omega) ((hR j e he).1.trans (flE_at he).symm)) ?_
        exact sw_ireturn dX8_flowAt_49 rfl rfl (⟨by rw [nI_clamp hj], rfl⟩)
      · rw [if_neg (fun q => h3 q.2.2)]
        refine sw_iconst (v := (-1)) dX8_flowAt_30 (by decide) ?_
        exact sw_ireturn dX8_flowAt_31 rfl rfl (⟨rfl, rfl⟩)
def c_idle (s : CS) (g b : Int32) : Int32 := if (0 ≤ g ∧ g ≤ 3) ∧ (0 ≤ b ∧ b < nI s.1.n) then (if latL b (s.1.gs g.toNatClampNeg).2.2.2 (-1) = -1 then s.1.ck else latL b (s.1.gs g.toNatClampNeg).2.2.2 (-1) + s.1.ag + 1) else -1
theorem k_idle {G : SG} {d : Nat} {h : AH} {s : CS} {g bk : Int32} (hC : CA h s) : SW G mX8_idle (d + 8) 0 0 0 [.ref 0, .int g, .int bk, .retAddr 0] [] h (fun r h' => r = some (.int (c_idle s g bk)) ∧ h' = h) := by
  obtain ⟨b, q, vb, K, nm, H⟩ := hC
  obtain ⟨hbq, h0, hW, hQ, hT, hL, hB⟩ := id H
  unfold c_idle
  refine sw_iload_n dX8_idle_0 rfl ?_
  refine sw_pcs1 dX8_idle_1 cs_X8_112 (m_isGate) ?_
  refine sw_ifeq (tgt := 18) dX8_idle_4 (by decide) (fun h1 => ?_) (fun h1 => ?_)
  · rw [if_neg (fun q => bz_eq0.mp h1 q.1)]
    refine sw_iconst (v := (-1)) dX8_idle_18 (by decide) ?_
    exact sw_ireturn dX8_idle_19 rfl rfl (⟨rfl, rfl⟩)
  · have h1 := bz_eq1.mp h1
    refine sw_aload_n dX8_idle_7 rfl ?_
    refine sw_getf dX8_idle_8 fl_X8_28 (h0) rfl ?_
    refine sw_iload_n dX8_idle_11 rfl ?_
    refine sw_pcv1 dX8_idle_12 cv_X8_106 (rc_of hW.1 rfl) (m_isBackend hW) ?_
    refine sw_ifne (tgt := 20) dX8_idle_15 (by decide) (fun h2 => ?_) (fun h2 => ?_)
    · have h2 := bz_eq1.mp h2
      rw [if_pos ⟨h1, h2⟩]
      obtain ⟨gi, hgi, rfl⟩ := ga_of h1
      rw [nI_clamp (by omega)]
      obtain ⟨ff, hf, hf4⟩ := hW.2.2.2.1
      have hG := hW.2.2.2.2.2 gi hgi
      obtain ⟨fl, go, ti, hA, hR⟩ := id hG.2.2.2.1
      refine sw_aload_n dX8_idle_20 rfl ?_
      refine sw_getf dX8_idle_21 fl_X8_28 (h0) rfl ?_
      refine sw_getf dX8_idle_24 fl_X8_147 (hW.1) rfl ?_
      refine sw_iload_n dX8_idle_27 rfl ?_
      refine sw_aald dX8_idle_28 (hf) (vp_in_nI (by omega) (by omega)) (nIat (by omega) (hf4 gi hgi)) ?_
      refine sw_getf dX8_idle_29 fl_X8_229 (hG.1) rfl ?_
      refine sw_iload_n dX8_idle_32 rfl ?_
      refine sw_pcv1 dX8_idle_33 cv_X8_257 (rc_of hA.1 rfl) (m_latestTo hG.2.2.2.1) ?_
      refine sw_istore_n dX8_idle_36 (by decide) rfl ?_
      refine sw_iload_n dX8_idle_37 rfl ?_
      refine sw_iconst (v := (-1)) dX8_idle_38 (by decide) ?_
      refine sw_cmpne (tgt := 52) dX8_idle_39 (by decide) (fun h3 => ?_) (fun h3 => ?_)
      · rw [if_neg h3]
        refine sw_iload_n dX8_idle_52 rfl ?_
        refine sw_aload_n dX8_idle_53 rfl ?_
        refine sw_getf dX8_idle_54 fl_X8_28 (h0) rfl ?_
        refine sw_getf dX8_idle_57 fl_X8_128 (hW.1) rfl ?_
        refine sw_iadd dX8_idle_60 ?_
        refine sw_iconst (v := 1) dX8_idle_61 (by decide) ?_
        refine sw_iadd dX8_idle_62 ?_
        exact sw_ireturn dX8_idle_63 rfl rfl (⟨rfl, rfl⟩)
      · rw [if_pos h3]
        refine sw_aload_n dX8_idle_42 rfl ?_
        refine sw_getf dX8_idle_43 fl_X8_28 (h0) rfl ?_
        refine sw_getf dX8_idle_46 fl_X8_137 (hW.1) rfl ?_
        refine sw_goto (tgt := 63) dX8_idle_49 (by decide) ?_
        exact sw_ireturn dX8_idle_63 rfl rfl (⟨rfl, rfl⟩)
    · rw [if_neg (fun q => bz_eq0.mp h2 q.2)]
      refine sw_iconst (v := (-1)) dX8_idle_18 (by decide) ?_
      exact sw_ireturn dX8_idle_19 rfl rfl (⟨rfl, rfl⟩)
def gt1 (w : WS) (oi : Nat) (id : Int32) : Int32 := if kgl (w.gs oi) id = -1 then wT w (wU w oi) (slfN id w.p) else kgl (w.gs oi) id
def astF (w : WS) (oi : Nat) (es : List E3) : Nat := es.countP (fun e => !decide (gt1 w oi e.1 = e.2.1))
def c_astray (s : CS) (g o : Int32) : Int32 := if (0 ≤ g ∧ g ≤ 3) ∧ (0 ≤ o ∧ o ≤ 3) then nI (astF s.1 o.toNatClampNeg (s.1.gs g.toNatClampNeg).2.2.2) else -1
theorem k_astray {G : SG} {d : Nat} {h : AH} {s : CS} {g o : Int32} (hC : CA h s) (hI : wOk s.1) : SW G mX8_astray (d + 8) 0 0 0 [.ref 0, .int g, .int o, .retAddr 0, .retAddr 0, .retAddr 0, .retAddr 0, .retAddr 0, .retAddr 0] [] h (fun r h' => r = some (.int (c_astray s g o)) ∧ CA h' s ∧ SameC h h') := by
  obtain ⟨b, q, vb, K, nm, H⟩ := hC
  obtain ⟨hbq, h0, hW, hQ, hT, hL, hB⟩ := id H
  have hb : 9 ≤ b := by omega
  have hp := hI.1
  unfold c_astray
  refine sw_iload_n dX8_astray_0 rfl ?_
  refine sw_pcs1 dX8_astray_1 cs_X8_112 (m_isGate) ?_
  refine sw_ifeq (tgt := 14) dX8_astray_4 (by decide) (fun h1 => ?_) (fun h1 => ?_)
  · rw [if_neg (fun q => bz_eq0.mp h1 q.1)]
    refine sw_iconst (v := (-1)) dX8_astray_14 (by decide) ?_
    exact sw_ireturn dX8_astray_15 rfl rfl (⟨rfl, H.A, SameC.rf⟩)
  · have h1 := bz_eq1.mp h1
    refine sw_iload_n dX8_astray_7 rfl ?_
    refine sw_pcs1 dX8_astray_8 cs_X8_112 (m_isGate) ?_
    refine sw_ifne (tgt := 16) dX8_astray_11 (by decide) (fun h2 => ?_) (fun h2 => ?_)
    · have h2 := bz_eq1.mp h2
      rw [if_pos ⟨h1, h2⟩]
      obtain ⟨gi, hgi, rfl⟩ := ga_of h1
      obtain ⟨oi, hoi, rfl⟩ := ga_of h2
      rw [nI_clamp (by omega), nI_clamp (by omega)]
      obtain ⟨ff, hf, hf4⟩ := hW.2.2.2.1
      have hG0 := hW.2.2.2.2.2 gi hgi
      obtain ⟨t4, h4⟩ := hB.2.1
      refine sw_aload_n dX8_astray_16 rfl ?_
      refine sw_getf dX8_astray_17 fl_X8_28 (h0) rfl ?_
      refine sw_getf dX8_astray_20 fl_X8_147 (hW.1) rfl ?_
      refine sw_iload_n dX8_astray_23 rfl ?_
      refine sw_aald dX8_astray_24 (hf) (vp_in_nI (by omega) (by omega)) (nIat (by omega) (hf4 gi hgi)) ?_
      refine sw_getf dX8_astray_25 fl_X8_229 (hG0.1) rfl ?_
      refine sw_astore_n dX8_astray_28 (by decide) rfl ?_
      refine sw_aload_n dX8_astray_29 rfl ?_
      have hG := hW.2.2.2.2.2 oi hoi
      refine sw_getf dX8_astray_30 fl_X8_28 (h0) rfl ?_
      refine sw_getf dX8_astray_33 fl_X8_147 (hW.1) rfl ?_
      refine sw_iload_n dX8_astray_36 rfl ?_
      refine sw_aald dX8_astray_37 (hf) (vp_in_nI (by omega) (by omega)) (nIat (by omega) (hf4 oi hoi)) ?_
      refine sw_astore dX8_astray_38 (by decide) rfl ?_
      refine sw_iconst (v := 0) dX8_astray_40 (by decide) ?_
      refine sw_istore dX8_astray_41 (by decide) rfl ?_
      refine sw_aload_n dX8_astray_43 rfl ?_
      refine sw_aload_n dX8_astray_44 rfl ?_
      refine sw_getf dX8_astray_45 fl_X8_19 (h0) rfl ?_
      refine sw_getf dX8_astray_48 fl_X8_195 (hB.1) rfl ?_
      refine sw_aload dX8_astray_51 rfl ?_
      refine sw_pcv0 dX8_astray_53 cv_X8_156 (rc_of hG.1 rfl) (m_ups hG) ?_
      refine sw_cv2 dX8_astray_56 cv_X8_160 (rc_of h0 rfl) (k_makeTable (o := 4) (m := wU s.1 oi) (oOk4 hb) (wU_lt _ _) (by omega) (by omega) h0 hB hW h4) (fun r g1 hr => ?_)
      obtain ⟨rfl, hS, hB, t', e1, ht⟩ := hr
      have hW := hW.M hb (by omega) hS
      have h0 := (hS.2 0 (by omega) (by omega) (by omega) (by omega)).trans h0
      have hG0 := hW.2.2.2.2.2 gi hgi
      have hG := hW.2.2.2.2.2 oi hoi
      obtain ⟨fl, go, ti, hA, hR⟩ := id hG0.2.2.2.1
      have h16 := hA.2.2.2.2
      obtain ⟨H1, HS⟩ := H.U hW hB (hS.U (Or.inl (by omega)))
      have loop : ∀ (r : List E3) (i n : Nat) (v7 v8 : Value), (s.1.gs gi).2.2.2.drop i = r → i ≤ (s.1.gs gi).2.2.2.length → n + astF s.1 oi r = astF s.1 oi (s.1.gs gi).2.2.2 → SW G mX8_astray (d + 8) 0 0 62 [.ref 0, .int (nI gi), .int (nI oi), .ref (b + 4 + 7 * gi + 3), .ref (b + 4 + 7 * oi), .int (nI n), .int (nI i), v7, v8] [] g1 (fun r h' => r = some (.int (nI (astF s.1 oi (s.1.gs gi).2.2.2))) ∧ CA h' s ∧ SameC h h') := by
        intro r
        induction r with
        | nil =>
          intro i n v7 v8 hd hi hn
          have := dropN hd
          have : i = (s.1.gs gi).2.2.2.length := by omega
          subst this
          have hn : n = astF s.1 oi (s.1.gs gi).2.2.2 := hn
          subst hn
          refine sw_iload dX8_astray_62 rfl ?_
          refine sw_aload_n dX8_astray_64 rfl ?_
          refine sw_getf dX8_astray_65 fl_X8_245 (hA.1) rfl ?_
          refine sw_cmpge (tgt := 138) dX8_astray_68 (by decide) (fun hc => ?_) (fun hc => ?_)
          · refine sw_iload dX8_astray_138 rfl ?_
            exact sw_ireturn dX8_astray_140 rfl rfl (⟨rfl, H1.A, HS⟩)
          · exact absurd (nI_le (Nat.le_refl _) (by omega)) hc
        | cons e r ih =>
          intro i n v7 v8 hd hi hn
          obtain ⟨he, hd2, hil⟩ := dropC hd
          obtain ⟨r1, r2, r3⟩ := hR i e he
          have cmp : ∀ v7 : Value, SW G mX8_astray (d + 8) 0 0 117 [.ref 0, .int (nI gi), .int (nI oi), .ref (b + 4 + 7 * gi + 3), .ref (b + 4 + 7 * oi), .int (nI n), .int (nI i), v7, .int (gt1 s.1 oi e.1)] [] g1 (fun r h' => r = some (.int (nI (astF s.1 oi (s.1.gs gi).2.2.2))) ∧ CA h' s ∧ SameC h h') := by
            intro v7
            refine sw_iload dX8_astray_117 rfl ?_
            refine sw_aload_n dX8_astray_119 rfl ?_
            refine sw_getf dX8_astray_120 fl_X8_239 (hA.1) rfl ?_
            refine sw_iload dX8_astray_123 rfl ?_
            refine sw_iald dX8_astray_125 (hA.2.2.1) (vp_in_nI (by omega) (by omega)) (nIat (by omega) r2) ?_
            refine sw_cmpeq (tgt := 132) dX8_astray_126 (by decide) (fun hq => ?_) (fun hq => ?_)
            · refine sw_iinc (v := nI (i + 1)) dX8_astray_132 rfl (nI_1 i) (by decide) rfl ?_
              refine sw_goto (tgt := 62) dX8_astray_135 (by decide) ?_
              refine ih (i + 1) n _ _ hd2 (by omega) ?_
              rw [← hn]
              unfold astF
              rw [List.countP_cons_of_neg (by simp [hq])]
            · refine sw_iinc (v := nI (n + 1)) dX8_astray_129 rfl (nI_1 n) (by decide) rfl ?_
              refine sw_iinc (v := nI (i + 1)) dX8_astray_132 rfl (nI_1 i) (by decide) rfl ?_
              refine sw_goto (tgt := 62) dX8_astray_135 (by decide) ?_
              refine ih (i + 1) (n + 1) _ _ hd2 (by omega) ?_
              rw [← hn]
              unfold astF
              rw [List.countP_cons_of_pos (by simp [hq])]
              omega
          refine sw_iload dX8_astray_62 rfl ?_
          refine sw_aload_n dX8_astray_64 rfl ?_
          refine sw_getf dX8_astray_65 fl_X8_245 (hA.1) rfl ?_
          refine sw_cmpge (tgt := 138) dX8_astray_68 (by decide) (fun hc => ?_) (fun hc => ?_)
          · exact absurd hc (nI_ge (by omega) (by omega))
          · refine sw_aload_n dX8_astray_71 rfl ?_
            refine sw_getf dX8_astray_72 fl_X8_251 (hA.1) rfl ?_
            refine sw_iload dX8_astray_75 rfl ?_
            refine sw_iald dX8_astray_77 (hA.2.1) (vp_in_nI (by omega) (by omega)) (nIat (by omega) r1) ?_
            refine sw_istore dX8_astray_78 (by decide) rfl ?_
            refine sw_aload dX8_astray_80 rfl ?_
            refine sw_iload dX8_astray_82 rfl ?_
            refine sw_pcv1 dX8_astray_84 cv_X8_254 (rc_of hG.1 rfl) (m_knownGoal hG (hI.2.2 oi hoi)) ?_
            refine sw_istore dX8_astray_87 (by decide) rfl ?_
            refine sw_iload dX8_astray_89 rfl ?_
            refine sw_iconst (v := (-1)) dX8_astray_91 (by decide) ?_
            refine sw_cmpne (tgt := 117) dX8_astray_92 (by decide) (fun hk => ?_) (fun hk => ?_)
            · have hg : gt1 s.1 oi e.1 = kgl (s.1.gs oi) e.1 := by unfold gt1; rw [if_neg hk]
              have := cmp (.int e.1)
              rw [hg] at this
              exact this
            · have hg : gt1 s.1 oi e.1 = wT s.1 (wU s.1 oi) (slfN e.1 s.1.p) := by unfold gt1; rw [if_pos hk]
              have hsl := slfN_lt (k := e.1) (p := s.1.p) (by omega)
              refine sw_aload_n dX8_astray_95 rfl ?_
              refine sw_getf dX8_astray_96 fl_X8_19 (h0) rfl ?_
              refine sw_getf dX8_astray_99 fl_X8_195 (hB.1) rfl ?_
              refine sw_iload dX8_astray_102 rfl ?_
              refine sw_aload_n dX8_astray_104 rfl ?_
              refine sw_getf dX8_astray_105 fl_X8_28 (h0) rfl ?_
              refine sw_getf dX8_astray_108 fl_X8_82 (hW.1) rfl ?_
              refine sw_pcs2 dX8_astray_111 cs_X8_226 (m_slotOfFlow) ?_
              rw [show slfI e.1 (nI s.1.p) = nI (slfN e.1 s.1.p) from slfI_N (by omega) (by omega)]
              refine sw_iald dX8_astray_114 (e1) (vp_in_nI (by omega) (by omega)) (nIat (by omega) ((ht _ hsl).trans hg.symm)) ?_
              refine sw_istore dX8_astray_115 (by decide) rfl ?_
              exact cmp _
      refine sw_iconst (v := 0) dX8_astray_59 (by decide) ?_
      refine sw_istore dX8_astray_60 (by decide) rfl ?_
      exact loop _ 0 0 _ _ rfl (by omega) (by rw [List.drop_zero]; omega)
    · rw [if_neg (fun q => bz_eq0.mp h2 q.2)]
      refine sw_iconst (v := (-1)) dX8_astray_14 (by decide) ?_
      exact sw_ireturn dX8_astray_15 rfl rfl (⟨rfl, H.A, SameC.rf⟩)
