/-- what a number may be -/
def cbF (w : WS) (s x : Int32) : Bool :=
  if s = 83 then isSz x else if s = 75 then !hasK w.ks x w.n 0 else if s = 87 then decide (1 ≤ x ∧ x ≤ 9) else if s = 66 then decide (0 ≤ x ∧ x < nI w.n) else if s = 71 then decide (0 ≤ x ∧ x ≤ 3)
  else if s = 84 then decide (1 ≤ x ∧ x ≤ 999) else if s = 82 then decide (1 ≤ x ∧ x ≤ 16) else if s = 65 then decide (0 ≤ x ∧ x ≤ 99) else decide (0 ≤ x ∧ x ≤ 9999)
theorem bz_dec (p : Prop) [Decidable p] : bz p = bz (decide p = true) := by
  unfold bz; by_cases h : p
  · simp [h]
  · simp [h]
theorem m_canBe {G : SG} {d b : Nat} {h : AH} {w : WS} {s x : Int32} (hW : WorldAt h b w) : SW G mX5_canBe (d + 2) 0 0 0 [.ref b, .int s, .int x] [] h (fun r h' => r = some (.int (bz (cbF w s x = true))) ∧ h' = h) := by
  unfold cbF
  refine sw_iload_n dX5_canBe_0 rfl ?_
  refine sw_bipush (v := 83) dX5_canBe_1 (by decide) ?_
  refine sw_cmpne (tgt := 11) dX5_canBe_3 (by decide) (fun hS => ?_) (fun hS => ?_)
  · rw [if_neg hS]
    refine sw_iload_n dX5_canBe_11 rfl ?_
    refine sw_bipush (v := 75) dX5_canBe_12 (by decide) ?_
    refine sw_cmpne (tgt := 31) dX5_canBe_14 (by decide) (fun hK => ?_) (fun hK => ?_)
    · rw [if_neg hK]
      refine sw_iload_n dX5_canBe_31 rfl ?_
      refine sw_bipush (v := 87) dX5_canBe_32 (by decide) ?_
      refine sw_cmpne (tgt := 45) dX5_canBe_34 (by decide) (fun hWt => ?_) (fun hWt => ?_)
      · rw [if_neg hWt]
        refine sw_iload_n dX5_canBe_45 rfl ?_
        refine sw_bipush (v := 66) dX5_canBe_46 (by decide) ?_
        refine sw_cmpne (tgt := 57) dX5_canBe_48 (by decide) (fun hB => ?_) (fun hB => ?_)
        · rw [if_neg hB]
          refine sw_iload_n dX5_canBe_57 rfl ?_
          refine sw_bipush (v := 71) dX5_canBe_58 (by decide) ?_
          refine sw_cmpne (tgt := 68) dX5_canBe_60 (by decide) (fun hG => ?_) (fun hG => ?_)
          · rw [if_neg hG]
            refine sw_iload_n dX5_canBe_68 rfl ?_
            refine sw_bipush (v := 84) dX5_canBe_69 (by decide) ?_
            refine sw_cmpne (tgt := 83) dX5_canBe_71 (by decide) (fun hT => ?_) (fun hT => ?_)
            · rw [if_neg hT]
              refine sw_iload_n dX5_canBe_83 rfl ?_
              refine sw_bipush (v := 82) dX5_canBe_84 (by decide) ?_
              refine sw_cmpne (tgt := 97) dX5_canBe_86 (by decide) (fun hR => ?_) (fun hR => ?_)
              · rw [if_neg hR]
                refine sw_iload_n dX5_canBe_97 rfl ?_
                refine sw_bipush (v := 65) dX5_canBe_98 (by decide) ?_
                refine sw_cmpne (tgt := 113) dX5_canBe_100 (by decide) (fun hA => ?_) (fun hA => ?_)
                · rw [if_neg hA]
                  refine sw_iload_n dX5_canBe_113 rfl ?_
                  refine sw_csn1 dX5_canBe_114 cs_X5_131 (m_isFlow) (fun r g hr => ?_)
                  obtain ⟨rfl, rfl⟩ := hr
                  exact sw_ireturn dX5_canBe_117 rfl (bz_nar _) (⟨by rw [bz_dec], rfl⟩)
                · rw [if_pos hA]
                  refine sw_iload_n dX5_canBe_103 rfl ?_
                  refine sw_iconst (v := 0) dX5_canBe_104 (by decide) ?_
                  refine sw_bipush (v := 99) dX5_canBe_105 (by decide) ?_
                  refine sw_csn3 dX5_canBe_107 cs_X5_121 (m_isWithin) (fun r g hr => ?_)
                  obtain ⟨rfl, rfl⟩ := hr
                  refine sw_goto (tgt := 117) dX5_canBe_110 (by decide) ?_
                  exact sw_ireturn dX5_canBe_117 rfl (bz_nar _) (⟨by rw [bz_dec], rfl⟩)
              · rw [if_pos hR]
                refine sw_iload_n dX5_canBe_89 rfl ?_
                refine sw_iconst (v := 1) dX5_canBe_90 (by decide) ?_
                refine sw_bipush (v := 16) dX5_canBe_91 (by decide) ?_
                refine sw_csn3 dX5_canBe_93 cs_X5_121 (m_isWithin) (fun r g hr => ?_)
                obtain ⟨rfl, rfl⟩ := hr
                exact sw_ireturn dX5_canBe_96 rfl (bz_nar _) (⟨by rw [bz_dec], rfl⟩)
            · rw [if_pos hT]
              refine sw_iload_n dX5_canBe_74 rfl ?_
              refine sw_iconst (v := 1) dX5_canBe_75 (by decide) ?_
              refine sw_sipush (v := 999) dX5_canBe_76 (by decide) ?_
              refine sw_csn3 dX5_canBe_79 cs_X5_121 (m_isWithin) (fun r g hr => ?_)
              obtain ⟨rfl, rfl⟩ := hr
              exact sw_ireturn dX5_canBe_82 rfl (bz_nar _) (⟨by rw [bz_dec], rfl⟩)
          · rw [if_pos hG]
            refine sw_iload_n dX5_canBe_63 rfl ?_
            refine sw_csn1 dX5_canBe_64 cs_X5_128 (m_isGate) (fun r g hr => ?_)
            obtain ⟨rfl, rfl⟩ := hr
            exact sw_ireturn dX5_canBe_67 rfl (bz_nar _) (⟨by rw [bz_dec], rfl⟩)
        · rw [if_pos hB]
          refine sw_aload_n dX5_canBe_51 rfl ?_
          refine sw_iload_n dX5_canBe_52 rfl ?_
          refine sw_cv1 dX5_canBe_53 cv_X5_125 (rc_of hW.1 rfl) (m_isBackend hW) (fun r g hr => ?_)
          obtain ⟨rfl, rfl⟩ := hr
          exact sw_ireturn dX5_canBe_56 rfl (bz_nar _) (⟨by rw [bz_dec], rfl⟩)
      · rw [if_pos hWt]
        refine sw_iload_n dX5_canBe_37 rfl ?_
        refine sw_iconst (v := 1) dX5_canBe_38 (by decide) ?_
        refine sw_bipush (v := 9) dX5_canBe_39 (by decide) ?_
        refine sw_csn3 dX5_canBe_41 cs_X5_121 (m_isWithin) (fun r g hr => ?_)
        obtain ⟨rfl, rfl⟩ := hr
        exact sw_ireturn dX5_canBe_44 rfl (bz_nar _) (⟨by rw [bz_dec], rfl⟩)
    · rw [if_pos hK]
      refine sw_aload_n dX5_canBe_17 rfl ?_
      refine sw_iload_n dX5_canBe_18 rfl ?_
      refine sw_cv1 dX5_canBe_19 cv_X5_118 (rc_of hW.1 rfl) (m_hasKey hW) (fun r g hr => ?_)
      obtain ⟨rfl, rfl⟩ := hr
      refine sw_ifne (tgt := 29) dX5_canBe_22 (by decide) (fun hq => ?_) (fun hq => ?_)
      · have : hasK w.ks x w.n 0 = true := bz_eq1.mp hq
        refine sw_iconst (v := 0) dX5_canBe_29 (by decide) ?_
        exact sw_ireturn dX5_canBe_30 rfl rfl (⟨by rw [this]; rfl, rfl⟩)
      · have : ¬ hasK w.ks x w.n 0 = true := bz_eq0.mp hq
        refine sw_iconst (v := 1) dX5_canBe_25 (by decide) ?_
        refine sw_goto (tgt := 30) dX5_canBe_26 (by decide) ?_
        exact sw_ireturn dX5_canBe_30 rfl rfl (⟨by rw [bz_1 (by simp [this])], rfl⟩)
  · rw [if_pos hS]
    refine sw_iload_n dX5_canBe_6 rfl ?_
    refine sw_csn1 dX5_canBe_7 cs_X5_114 (m_isSize) (fun r g hr => ?_)
    obtain ⟨rfl, rfl⟩ := hr
    exact sw_ireturn dX5_canBe_10 rfl (bz_nar _) (⟨rfl, rfl⟩)
/-- a word for a state -/
def rhF (tp : Nat → Int32) (n : Nat) (fo : Int32) (K : K3) : Int32 × Int32 × K3 :=
  if isWd tp K 0 = true then (1, fo, advK tp n K) else if isWd tp K 1 = true then (0, fo, advK tp n K) else if isWd tp K 2 = true then (2, fo, advK tp n K) else (2, flF fo 1 K.2.1, K)
theorem m_readHow {G : SG} {d n vb : Nat} {h : AH} {tp nm : Nat → Int32} {fo : Int32} {K : K3} (hT : TapeAt h tp n) (hL : TelK h fo vb K nm) (hK : kOk n K) : SW G mX5_readHow (d + 5) 0 0 0 [.ref 73] [] h (fun r h' => r = some (.int (rhF tp n fo K).1) ∧ TelK h' (rhF tp n fo K).2.1 vb (rhF tp n fo K).2.2 nm ∧ SameL h h') := by
  unfold rhF
  refine sw_aload_n dX5_readHow_0 rfl ?_
  refine sw_ldcS (tx := "up") (a := 1010) dX5_readHow_1 (by decide +kernel) ?_
  refine sw_cv1 dX5_readHow_3 cv_X5_85 (rc_of hL.1.1 rfl) (m_takes (k := 0) (by omega) hT hL hK) (fun r g hr => ?_)
  obtain ⟨rfl, hL1, hS1⟩ := hr
  refine sw_ifeq (tgt := 11) dX5_readHow_6 (by decide) (fun h0 => ?_) (fun h0 => ?_)
  · have h0 : ¬ isWd tp K 0 = true := bz_eq0.mp h0
    rw [if_neg h0] at hL1 ⊢
    have hT1 := hT.kept (h' := g) (fun j a b => hS1.2 j (by omega))
    refine sw_aload_n dX5_readHow_11 rfl ?_
    refine sw_ldcS (tx := "down") (a := 1011) dX5_readHow_12 (by decide +kernel) ?_
    refine sw_cv1 dX5_readHow_14 cv_X5_85 (rc_of hL1.1.1 rfl) (m_takes (k := 1) (by omega) hT1 hL1 hK) (fun r g2 hr => ?_)
    obtain ⟨rfl, hL2, hS2⟩ := hr
    refine sw_ifeq (tgt := 22) dX5_readHow_17 (by decide) (fun h1 => ?_) (fun h1 => ?_)
    · have h1 : ¬ isWd tp K 1 = true := bz_eq0.mp h1
      rw [if_neg h1] at hL2 ⊢
      have hT2 := hT1.kept (h' := g2) (fun j a b => hS2.2 j (by omega))
      refine sw_aload_n dX5_readHow_22 rfl ?_
      refine sw_ldcS (tx := "drain") (a := 1012) dX5_readHow_23 (by decide +kernel) ?_
      refine sw_cv1 dX5_readHow_25 cv_X5_85 (rc_of hL2.1.1 rfl) (m_takes (k := 2) (by omega) hT2 hL2 hK) (fun r g3 hr => ?_)
      obtain ⟨rfl, hL3, hS3⟩ := hr
      refine sw_ifne (tgt := 40) dX5_readHow_28 (by decide) (fun h2 => ?_) (fun h2 => ?_)
      · have h2 : isWd tp K 2 = true := bz_eq1.mp h2
        rw [if_pos h2] at hL3 ⊢
        refine sw_iconst (v := 2) dX5_readHow_40 (by decide) ?_
        exact sw_ireturn dX5_readHow_41 rfl rfl (⟨rfl, hL3, hS1.tr (hS2.tr hS3)⟩)
      · have h2 : ¬ isWd tp K 2 = true := bz_eq0.mp h2
        rw [if_neg h2] at hL3 ⊢
        refine sw_aload_n dX5_readHow_31 rfl ?_
        refine sw_iconst (v := 1) dX5_readHow_32 (by decide) ?_
        refine sw_aload_n dX5_readHow_33 rfl ?_
        refine sw_getf dX5_readHow_34 fl_X5_31 (hL3.1.1) rfl ?_
        refine sw_cv2 dX5_readHow_37 cv_X5_48 (rc_of hL3.1.1 rfl) (m_fail (s := 1) (w := K.2.1) hL3) (fun r g4 hr => ?_)
        obtain ⟨rfl, hL4, hS4⟩ := hr
        refine sw_iconst (v := 2) dX5_readHow_40 (by decide) ?_
        exact sw_ireturn dX5_readHow_41 rfl rfl (⟨rfl, hL4, hS1.tr (hS2.tr (hS3.tr hS4))⟩)
    · have h1 : isWd tp K 1 = true := bz_eq1.mp h1
      rw [if_pos h1] at hL2 ⊢
      refine sw_iconst (v := 0) dX5_readHow_20 (by decide) ?_
      exact sw_ireturn dX5_readHow_21 rfl rfl (⟨rfl, hL2, hS1.tr hS2⟩)
  · have h0 : isWd tp K 0 = true := bz_eq1.mp h0
    rw [if_pos h0] at hL1 ⊢
    refine sw_iconst (v := 1) dX5_readHow_9 (by decide) ?_
    exact sw_ireturn dX5_readHow_10 rfl rfl (⟨rfl, hL1, hS1⟩)
theorem rhF_ok {tp : Nat → Int32} {n : Nat} {fo : Int32} {K : K3} (h : kOk n K) : kOk n (rhF tp n fo K).2.2 := by
  unfold rhF
  split
  · exact advK_ok h
  · split
    · exact advK_ok h
    · split
      · exact advK_ok h
      · exact h
/-- what stands behind a verb -/
def rnF (tp : Nat → Int32) (n : Nat) (w : WS) (s fo : Int32) (K : K3) : Int32 × Int32 × K3 :=
  if s = 72 then rhF tp n fo K
  else if s = 71 ∧ isWd tp K 3 = true then (-1, fo, advK tp n K)
  else if K.1 = 3 then (nmF tp (K.2.2 - K.2.1) K.2.1 0, if cbF w s (nmF tp (K.2.2 - K.2.1) K.2.1 0) = true then fo else flF fo 2 K.2.1, advK tp n K)
  else (0, flF fo 1 K.2.1, K)
theorem rnF_ok {tp : Nat → Int32} {n : Nat} {w : WS} {s fo : Int32} {K : K3} (h : kOk n K) : kOk n (rnF tp n w s fo K).2.2 := by
  unfold rnF
  split
  · exact rhF_ok h
  · split
    · exact advK_ok h
    · split
      · exact advK_ok h
      · exact h
theorem m_readNext {G : SG} {d n vb b : Nat} {h : AH} {tp nm : Nat → Int32} {fo s : Int32} {K : K3} {w : WS} (hW : WorldAt h b w) (hb : b + 32 ≤ 73) (hT : TapeAt h tp n) (hL : TelK h fo vb K nm) (hK : kOk n K) : SW G mX5_readNext (d + 6) 0 0 0 [.ref 73, .ref b, .int s, .retAddr 0] [] h (fun r h' => r = some (.int (rnF tp n w s fo K).1) ∧ TelK h' (rnF tp n w s fo K).2.1 vb (rnF tp n w s fo K).2.2 nm ∧ SameL h h') := by
  have tail : ∀ g : AH, TelK g fo vb K nm → SameL h g → ¬ s = 72 → ¬ (s = 71 ∧ isWd tp K 3 = true) → SW G mX5_readNext (d + 6) 0 0 28 [.ref 73, .ref b, .int s, .retAddr 0] [] g (fun r h' => r = some (.int (rnF tp n w s fo K).1) ∧ TelK h' (rnF tp n w s fo K).2.1 vb (rnF tp n w s fo K).2.2 nm ∧ SameL h h') := by
    intro g hL hS hs1 hs2
    unfold rnF
    rw [if_neg hs1, if_neg hs2]
    have hTg := hT.kept (h' := g) (fun j a b => hS.2 j (by omega))
    have hWg := hW.kept (h' := g) (fun j x y => hS.2 j (by omega))
    have hK5 := hL.2
    refine sw_aload_n dX5_readNext_28 rfl ?_
    refine sw_getf dX5_readNext_29 fl_X5_28 (hL.1.1) rfl ?_
    refine sw_iconst (v := 3) dX5_readNext_32 (by decide) ?_
    refine sw_cmpeq (tgt := 47) dX5_readNext_33 (by decide) (fun h3 => ?_) (fun h3 => ?_)
    · have h3 : K.1 = 3 := (nI_eq (b := 3) (by omega) (by omega)).mp h3
      rw [if_pos h3]
      refine sw_aload_n dX5_readNext_47 rfl ?_
      refine sw_cv0 dX5_readNext_48 cv_X5_94 (rc_of hL.1.1 rfl) (m_numberHere hTg hL hK) (fun r g1 hr => ?_)
      obtain ⟨rfl, rfl⟩ := hr
      refine sw_istore_n dX5_readNext_51 (by decide) rfl ?_
      refine sw_aload_n dX5_readNext_52 rfl ?_
      refine sw_iload_n dX5_readNext_53 rfl ?_
      refine sw_iload_n dX5_readNext_54 rfl ?_
      refine sw_cs3 dX5_readNext_55 cs_X5_97 (m_canBe hWg) (fun r g2 hr => ?_)
      obtain ⟨rfl, rfl⟩ := hr
      refine sw_ifne (tgt := 70) dX5_readNext_58 (by decide) (fun hc => ?_) (fun hc => ?_)
      · have hc : cbF w s (nmF tp (K.2.2 - K.2.1) K.2.1 0) = true := bz_eq1.mp hc
        rw [if_pos hc]
        refine sw_aload_n dX5_readNext_70 rfl ?_
        refine sw_cv0 dX5_readNext_71 cv_X5_41 (rc_of hL.1.1 rfl) (m_adv hTg hL hK) (fun r g3 hr => ?_)
        obtain ⟨rfl, hL3, hS3⟩ := hr
        refine sw_iload_n dX5_readNext_74 rfl ?_
        exact sw_ireturn dX5_readNext_75 rfl rfl (⟨rfl, hL3, hS.tr hS3⟩)
      · have hc : ¬ cbF w s (nmF tp (K.2.2 - K.2.1) K.2.1 0) = true := bz_eq0.mp hc
        rw [if_neg hc]
        refine sw_aload_n dX5_readNext_61 rfl ?_
        refine sw_iconst (v := 2) dX5_readNext_62 (by decide) ?_
        refine sw_aload_n dX5_readNext_63 rfl ?_
        refine sw_getf dX5_readNext_64 fl_X5_31 (hL.1.1) rfl ?_
        refine sw_cv2 dX5_readNext_67 cv_X5_48 (rc_of hL.1.1 rfl) (m_fail (s := 2) (w := K.2.1) hL) (fun r g3 hr => ?_)
        obtain ⟨rfl, hL3, hS3⟩ := hr
        have hT3 := hTg.kept (h' := g3) (fun j a b => hS3.2 j (by omega))
        refine sw_aload_n dX5_readNext_70 rfl ?_
        refine sw_cv0 dX5_readNext_71 cv_X5_41 (rc_of hL3.1.1 rfl) (m_adv hT3 hL3 hK) (fun r g4 hr => ?_)
        obtain ⟨rfl, hL4, hS4⟩ := hr
        refine sw_iload_n dX5_readNext_74 rfl ?_
        exact sw_ireturn dX5_readNext_75 rfl rfl (⟨rfl, hL4, hS.tr (hS3.tr hS4)⟩)
    · have h3 : ¬ K.1 = 3 := fun z => h3 (by rw [z]; rfl)
      rw [if_neg h3]
      refine sw_aload_n dX5_readNext_36 rfl ?_
      refine sw_iconst (v := 1) dX5_readNext_37 (by decide) ?_
      refine sw_aload_n dX5_readNext_38 rfl ?_
      refine sw_getf dX5_readNext_39 fl_X5_31 (hL.1.1) rfl ?_
      refine sw_cv2 dX5_readNext_42 cv_X5_48 (rc_of hL.1.1 rfl) (m_fail (s := 1) (w := K.2.1) hL) (fun r g3 hr => ?_)
      obtain ⟨rfl, hL3, hS3⟩ := hr
      refine sw_iconst (v := 0) dX5_readNext_45 (by decide) ?_
      exact sw_ireturn dX5_readNext_46 rfl rfl (⟨rfl, hL3, hS.tr hS3⟩)
  refine sw_iload_n dX5_readNext_0 rfl ?_
  refine sw_bipush (v := 72) dX5_readNext_1 (by decide) ?_
  refine sw_cmpne (tgt := 11) dX5_readNext_3 (by decide) (fun hH => ?_) (fun hH => ?_)
  · refine sw_iload_n dX5_readNext_11 rfl ?_
    refine sw_bipush (v := 71) dX5_readNext_12 (by decide) ?_
    refine sw_cmpne (tgt := 28) dX5_readNext_14 (by decide) (fun hG => ?_) (fun hG => ?_)
    · exact tail h hL SameL.rf hH (fun q => hG q.1)
    · refine sw_aload_n dX5_readNext_17 rfl ?_
      refine sw_ldcS (tx := "all") (a := 1013) dX5_readNext_18 (by decide +kernel) ?_
      refine sw_cv1 dX5_readNext_20 cv_X5_85 (rc_of hL.1.1 rfl) (m_takes (k := 3) (by omega) hT hL hK) (fun r g hr => ?_)
      obtain ⟨rfl, hL1, hS1⟩ := hr
      refine sw_ifeq (tgt := 28) dX5_readNext_23 (by decide) (fun hw => ?_) (fun hw => ?_)
      · have hw : ¬ isWd tp K 3 = true := bz_eq0.mp hw
        rw [if_neg hw] at hL1
        exact tail g hL1 hS1 hH (fun q => hw q.2)
      · have hw : isWd tp K 3 = true := bz_eq1.mp hw
        rw [if_pos hw] at hL1
        unfold rnF
        rw [if_neg hH, if_pos ⟨hG, hw⟩]
        refine sw_iconst (v := (-1)) dX5_readNext_26 (by decide) ?_
        exact sw_ireturn dX5_readNext_27 rfl rfl (⟨rfl, hL1, hS1⟩)
  · unfold rnF
    rw [if_pos hH]
    refine sw_aload_n dX5_readNext_6 rfl ?_
    refine sw_cv0 dX5_readNext_7 cv_X5_89 (rc_of hL.1.1 rfl) (m_readHow hT hL hK) (fun r g hr => ?_)
    obtain ⟨rfl, hL1, hS1⟩ := hr
    exact sw_ireturn dX5_readNext_10 rfl rfl (⟨rfl, hL1, hS1⟩)
/-- a statement -/
def rlF (tp : Nat → Int32) (n : Nat) (w : WS) (v : Nat) : Nat → Nat → Int32 × K3 × (Nat → Int32) → Int32 × K3 × (Nat → Int32)
  | 0, _, x => x
  | c + 1, i, x => if x.1 = 0 then rlF tp n w v c (i + 1) ((rnF tp n w (sbc (7 + 2 * v) i) x.1 x.2.1).2.1, (rnF tp n w (sbc (7 + 2 * v) i) x.1 x.2.1).2.2, upd x.2.2 i (rnF tp n w (sbc (7 + 2 * v) i) x.1 x.2.1).1) else x
theorem rlF_ok {tp : Nat → Int32} {n : Nat} {w : WS} {v : Nat} : ∀ (c i : Nat) (x : Int32 × K3 × (Nat → Int32)), kOk n x.2.1 → kOk n (rlF tp n w v c i x).2.1 := by
  intro c
  induction c with
  | zero => intro i x h; exact h
  | succ c ih =>
    intro i x h
    unfold rlF
    split
    · exact ih _ _ (rnF_ok h)
    · exact h
def SameN (h h' : AH) : Prop := h'.length = h.length ∧ ∀ j, j ≠ 73 → j ≠ 74 → h'[j]? = h[j]?
theorem SameN.rf {h : AH} : SameN h h := ⟨rfl, fun _ _ _ => rfl⟩
theorem SameN.tr {h h1 h2 : AH} (a : SameN h h1) (b : SameN h1 h2) : SameN h h2 := ⟨b.1.trans a.1, fun j x y => (b.2 j x y).trans (a.2 j x y)⟩
theorem SameL.N {h h' : AH} (a : SameL h h') : SameN h h' := ⟨a.1, fun j x _ => a.2 j x⟩
theorem srt_len : ∀ v, v < 8 → sbl (7 + 2 * v) ≤ 3 ∧ 1 ≤ sbl (7 + 2 * v) := by decide +kernel
/-- what comes of a statement: fault, verb, numbers, the next token -/
def rdF (tp : Nat → Int32) (n : Nat) (w : WS) (fo : Int32) (vb : Nat) (K : K3) (nm : Nat → Int32) : Int32 × Nat × (Nat → Int32) × K3 :=
  let x := match vrb tp K 8 0 with
    | none => (flF fo 1 K.2.1, vb, K)
    | some v => (if v = 1 ∧ 8 ≤ w.n then flF fo 3 K.2.1 else fo, v, advK tp n K)
  let z := rlF tp n w x.2.1 (sbl (7 + 2 * x.2.1)) 0 (x.1, x.2.2, nm)
  (if z.2.1.1 = 4 then z.1 else flF z.1 1 z.2.1.2.1, x.2.1, z.2.2, advK tp n z.2.1)
