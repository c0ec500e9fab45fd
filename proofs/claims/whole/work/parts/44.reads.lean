theorem m_reads {G : SG} {d n vb b : Nat} {h : AH} {tp nm : Nat → Int32} {fo : Int32} {K : K3} {w : WS} (hW : WorldAt h b w) (hb : b + 32 ≤ 73) (hT : TapeAt h tp n) (hL : TelK h fo vb K nm) (hK : kOk n K) (hf0 : fo = 0) : SW G mX5_reads (d + 7) 0 0 0 [.ref 73, .ref b, .retAddr 0, .retAddr 0] [] h (fun r h' => r = some (.int (bz ((rdF tp n w fo vb K nm).1 = 0))) ∧ TelK h' (rdF tp n w fo vb K nm).1 (rdF tp n w fo vb K nm).2.1 (rdF tp n w fo vb K nm).2.2.2 (rdF tp n w fo vb K nm).2.2.1 ∧ SameN h h') := by
  have hn := hT.2.2
  -- the end of the statement
  have fin : ∀ (g : AH) (v i : Nat) (z : Int32 × K3 × (Nat → Int32)), TelK g z.1 v z.2.1 z.2.2 → kOk n z.2.1 → SameN h g → (rdF tp n w fo vb K nm) = (if z.2.1.1 = 4 then z.1 else flF z.1 1 z.2.1.2.1, v, z.2.2, advK tp n z.2.1) → SW G mX5_reads (d + 7) 0 0 106 [.ref 73, .ref b, .int (nI K.2.1), .int (nI i)] [] g (fun r h' => r = some (.int (bz ((rdF tp n w fo vb K nm).1 = 0))) ∧ TelK h' (rdF tp n w fo vb K nm).1 (rdF tp n w fo vb K nm).2.1 (rdF tp n w fo vb K nm).2.2.2 (rdF tp n w fo vb K nm).2.2.1 ∧ SameN h h') := by
    intro g v i z hL hkz hS he
    rw [he]
    have hK5 := hL.2
    have end2 : ∀ (g : AH) (f : Int32), TelK g f v z.2.1 z.2.2 → SameN h g → SW G mX5_reads (d + 7) 0 0 123 [.ref 73, .ref b, .int (nI K.2.1), .int (nI i)] [] g (fun r h' => r = some (.int (bz (f = 0))) ∧ TelK h' f v (advK tp n z.2.1) z.2.2 ∧ SameN h h') := by
      intro g f hL hS
      have hTg := hT.kept (h' := g) (fun j a b => hS.2 j (by omega) (by omega))
      refine sw_aload_n dX5_reads_123 rfl ?_
      refine sw_cv0 dX5_reads_124 cv_X5_41 (rc_of hL.1.1 rfl) (m_adv hTg hL hkz) (fun r g1 hr => ?_)
      obtain ⟨rfl, hL1, hS1⟩ := hr
      refine sw_aload_n dX5_reads_127 rfl ?_
      refine sw_getf dX5_reads_128 fl_X5_9 (hL1.1.1) rfl ?_
      refine sw_ifne (tgt := 138) dX5_reads_131 (by decide) (fun hq => ?_) (fun hq => ?_)
      · refine sw_iconst (v := 0) dX5_reads_138 (by decide) ?_
        exact sw_ireturn dX5_reads_139 rfl rfl (⟨by rw [bz_0 hq], hL1, hS.tr hS1.N⟩)
      · refine sw_iconst (v := 1) dX5_reads_134 (by decide) ?_
        refine sw_goto (tgt := 139) dX5_reads_135 (by decide) ?_
        exact sw_ireturn dX5_reads_139 rfl rfl (⟨by rw [bz_1 hq], hL1, hS.tr hS1.N⟩)
    refine sw_aload_n dX5_reads_106 rfl ?_
    refine sw_getf dX5_reads_107 fl_X5_28 (hL.1.1) rfl ?_
    refine sw_iconst (v := 4) dX5_reads_110 (by decide) ?_
    refine sw_cmpeq (tgt := 123) dX5_reads_111 (by decide) (fun h4 => ?_) (fun h4 => ?_)
    · have h4 : z.2.1.1 = 4 := (nI_eq (b := 4) (by omega) (by omega)).mp h4
      rw [if_pos h4]
      exact end2 g z.1 hL hS
    · have h4 : ¬ z.2.1.1 = 4 := fun q => h4 (by rw [q]; rfl)
      rw [if_neg h4]
      refine sw_aload_n dX5_reads_114 rfl ?_
      refine sw_iconst (v := 1) dX5_reads_115 (by decide) ?_
      refine sw_aload_n dX5_reads_116 rfl ?_
      refine sw_getf dX5_reads_117 fl_X5_31 (hL.1.1) rfl ?_
      refine sw_cv2 dX5_reads_120 cv_X5_48 (rc_of hL.1.1 rfl) (m_fail (s := 1) (w := z.2.1.2.1) hL) (fun r g1 hr => ?_)
      obtain ⟨rfl, hL1, hS1⟩ := hr
      exact end2 g1 _ hL1 (hS.tr hS1.N)
  have loop : ∀ (v : Nat), v < 8 → ∀ (c i : Nat) (g : AH) (x : Int32 × K3 × (Nat → Int32)), i + c = sbl (7 + 2 * v) → TelK g x.1 v x.2.1 x.2.2 → kOk n x.2.1 → SameN h g → (∀ z, z = rlF tp n w v c i x → (rdF tp n w fo vb K nm) = (if z.2.1.1 = 4 then z.1 else flF z.1 1 z.2.1.2.1, v, z.2.2, advK tp n z.2.1)) → SW G mX5_reads (d + 7) 0 0 48 [.ref 73, .ref b, .int (nI K.2.1), .int (nI i)] [] g (fun r h' => r = some (.int (bz ((rdF tp n w fo vb K nm).1 = 0))) ∧ TelK h' (rdF tp n w fo vb K nm).1 (rdF tp n w fo vb K nm).2.1 (rdF tp n w fo vb K nm).2.2.2 (rdF tp n w fo vb K nm).2.2.1 ∧ SameN h h') := by
    intro v hv c
    obtain ⟨hl3, hl1⟩ := srt_len v hv
    have h22 : 7 + 2 * v < 22 := by omega
    induction c with
    | zero =>
      intro i g x hi hL hkx hS he
      refine sw_iload_n dX5_reads_48 rfl ?_
      refine sw_aload_n dX5_reads_49 rfl ?_
      refine sw_getf dX5_reads_50 fl_X5_21 (hL.1.1) rfl ?_
      refine sw_getrN (v := .ref (1010 + (7 + 2 * v))) dX5_reads_53 (o := _) (nm := _) (ds := _) (List.mem_of_getElem? (i := 1) rfl) (vb_srt v hv) ?_
      refine sw_cv0 dX5_reads_56 cv_X5_64 (Or.inr (sb_cls _ h22)) (m_length h22) (fun r g1 hr => ?_)
      obtain ⟨rfl, rfl⟩ := hr
      refine sw_cmpge (tgt := 106) dX5_reads_59 (by decide) (fun hc => ?_) (fun hc => ?_)
      · exact fin g1 v i x hL hkx hS (he x rfl)
      · exact absurd (nI_le (by omega) (by omega)) hc
    | succ c ih =>
      intro i g x hi hL hkx hS he
      have hTg := hT.kept (h' := g) (fun j a b => hS.2 j (by omega) (by omega))
      have hWg := hW.kept (h' := g) (fun j x y => hS.2 j (by omega) (by omega))
      refine sw_iload_n dX5_reads_48 rfl ?_
      refine sw_aload_n dX5_reads_49 rfl ?_
      refine sw_getf dX5_reads_50 fl_X5_21 (hL.1.1) rfl ?_
      refine sw_getrN (v := .ref (1010 + (7 + 2 * v))) dX5_reads_53 (o := _) (nm := _) (ds := _) (List.mem_of_getElem? (i := 1) rfl) (vb_srt v hv) ?_
      refine sw_cv0 dX5_reads_56 cv_X5_64 (Or.inr (sb_cls _ h22)) (m_length h22) (fun r g1 hr => ?_)
      obtain ⟨rfl, rfl⟩ := hr
      refine sw_cmpge (tgt := 106) dX5_reads_59 (by decide) (fun hc => ?_) (fun hc => ?_)
      · exact absurd hc (nI_ge (by omega) (by omega))
      · refine sw_iload_n dX5_reads_62 rfl ?_
        refine sw_aload_n dX5_reads_63 rfl ?_
        refine sw_getf dX5_reads_64 fl_X5_24 (hL.1.1) rfl ?_
        refine sw_alen (v := 3) dX5_reads_67 hL.1.2.1 (by decide) (by decide) ?_
        refine sw_cmpge (tgt := 106) dX5_reads_68 (by decide) (fun h3 => ?_) (fun h3 => ?_)
        · exact absurd h3 (nI_ge (b := 3) (by omega) (by omega))
        · refine sw_aload_n dX5_reads_71 rfl ?_
          refine sw_getf dX5_reads_72 fl_X5_9 (hL.1.1) rfl ?_
          refine sw_ifne (tgt := 106) dX5_reads_75 (by decide) (fun hf => ?_) (fun hf => ?_)
          · exact fin g1 v i x hL hkx hS (he x (by rw [rlF, if_neg hf]))
          · refine sw_aload_n dX5_reads_78 rfl ?_
            refine sw_getf dX5_reads_79 fl_X5_24 (hL.1.1) rfl ?_
            refine sw_iload_n dX5_reads_82 rfl ?_
            refine sw_aload_n dX5_reads_83 rfl ?_
            refine sw_aload_n dX5_reads_84 rfl ?_
            refine sw_aload_n dX5_reads_85 rfl ?_
            refine sw_getf dX5_reads_86 fl_X5_21 (hL.1.1) rfl ?_
            refine sw_getrN (v := .ref (1010 + (7 + 2 * v))) dX5_reads_89 (o := _) (nm := _) (ds := _) (List.mem_of_getElem? (i := 1) rfl) (vb_srt v hv) ?_
            refine sw_iload_n dX5_reads_92 rfl ?_
            refine sw_cv1 dX5_reads_93 cv_X5_70 (Or.inr (sb_cls _ h22)) (m_charAt h22 (show i < sbl (7 + 2 * v) by omega)) (fun r g2 hr => ?_)
            obtain ⟨rfl, rfl⟩ := hr
            refine sw_cv2 dX5_reads_96 cv_X5_74 (rc_of hL.1.1 rfl) (m_readNext (s := sbc (7 + 2 * v) i) hWg hb hTg hL hkx) (fun r g3 hr => ?_)
            obtain ⟨rfl, hL3, hS3⟩ := hr
            refine sw_iast dX5_reads_99 (hL3.1.2.1) (vp_in_nI (by omega) (by omega)) (fun g4 z4 e4 o4 => ?_)
            rw [nIupd (by omega)] at e4
            refine sw_iinc (v := nI (i + 1)) dX5_reads_100 rfl (nI_1 i) (by decide) rfl ?_
            refine sw_goto (tgt := 48) dX5_reads_103 (by decide) ?_
            exact ih (i + 1) g4 ((rnF tp n w (sbc (7 + 2 * v) i) x.1 x.2.1).2.1, (rnF tp n w (sbc (7 + 2 * v) i) x.1 x.2.1).2.2, upd x.2.2 i (rnF tp n w (sbc (7 + 2 * v) i) x.1 x.2.1).1) (by omega) ⟨⟨(o4 _ (by omega)).trans hL3.1.1, e4, hv⟩, hL3.2⟩ (rnF_ok hkx) (hS.tr (hS3.N.tr ⟨z4, fun j _ y => o4 j y⟩)) (fun z hz => he z (by rw [rlF, if_pos hf]; exact hz))
  refine sw_aload_n dX5_reads_0 rfl ?_
  refine sw_getf dX5_reads_1 fl_X5_31 (hL.1.1) rfl ?_
  refine sw_istore_n dX5_reads_4 (by decide) rfl ?_
  refine sw_aload_n dX5_reads_5 rfl ?_
  refine sw_cv0 dX5_reads_6 cv_X5_44 (rc_of hL.1.1 rfl) (m_takesVerb hT hL hK) (fun r g hr => ?_)
  obtain ⟨hm, hS1⟩ := hr
  have hWg := hW.kept (h' := g) (fun j x y => hS1.2 j (by omega))
  cases hv : vrb tp K 8 0 with
  | none =>
    rw [hv] at hm
    obtain ⟨rfl, hL1⟩ := hm
    refine sw_ifne (tgt := 21) dX5_reads_9 (by decide) (fun hc => ?_) (fun hc => ?_)
    · exact absurd rfl hc
    · refine sw_aload_n dX5_reads_12 rfl ?_
      refine sw_iconst (v := 1) dX5_reads_13 (by decide) ?_
      refine sw_iload_n dX5_reads_14 rfl ?_
      refine sw_cv2 dX5_reads_15 cv_X5_48 (rc_of hL1.1.1 rfl) (m_fail (s := 1) (w := K.2.1) hL1) (fun r g2 hr => ?_)
      obtain ⟨rfl, hL2, hS2⟩ := hr
      refine sw_goto (tgt := 46) dX5_reads_18 (by decide) ?_
      refine sw_iconst (v := 0) dX5_reads_46 (by decide) ?_
      refine sw_istore_n dX5_reads_47 (by decide) rfl ?_
      exact loop vb hL.1.2.2 (sbl (7 + 2 * vb)) 0 g2 (flF fo 1 K.2.1, K, nm) (by omega) hL2 hK (hS1.N.tr hS2.N) (fun z hz => by unfold rdF; rw [hv, hz])
  | some v =>
    rw [hv] at hm
    obtain ⟨rfl, hL1⟩ := hm
    have hv8 : v < 8 := by have := vrb_lt 8 0 v hv; omega
    have go : ∀ (g2 : AH) (f : Int32), TelK g2 f v (advK tp n K) nm → SameN h g2 → (if v = 1 ∧ 8 ≤ w.n then flF fo 3 K.2.1 else fo) = f → SW G mX5_reads (d + 7) 0 0 46 [.ref 73, .ref b, .int (nI K.2.1), .retAddr 0] [] g2 (fun r h' => r = some (.int (bz ((rdF tp n w fo vb K nm).1 = 0))) ∧ TelK h' (rdF tp n w fo vb K nm).1 (rdF tp n w fo vb K nm).2.1 (rdF tp n w fo vb K nm).2.2.2 (rdF tp n w fo vb K nm).2.2.1 ∧ SameN h h') := by
      intro g2 f hL2 hS2 hf
      refine sw_iconst (v := 0) dX5_reads_46 (by decide) ?_
      refine sw_istore_n dX5_reads_47 (by decide) rfl ?_
      exact loop v hv8 (sbl (7 + 2 * v)) 0 g2 (f, advK tp n K, nm) (by omega) hL2 (advK_ok hK) hS2 (fun z hz => by unfold rdF; rw [hv]; simp only []; rw [hf, hz])
    refine sw_ifne (tgt := 21) dX5_reads_9 (by decide) (fun hc => ?_) (fun hc => ?_)
    · refine sw_aload_n dX5_reads_21 rfl ?_
      refine sw_getf dX5_reads_22 fl_X5_21 (hL1.1.1) rfl ?_
      refine sw_gets (v := .ref 1001) dX5_reads_25 w_335 (by decide +kernel) ?_
      refine sw_acmpne (i := v) (j := 1) (tgt := 46) dX5_reads_28 (by decide) hv8 (by omega) (fun hq => ?_) (fun hq => ?_)
      · exact go g fo hL1 hS1.N (if_neg (fun q => hq q.1))
      · refine sw_aload_n dX5_reads_31 rfl ?_
        refine sw_getf dX5_reads_32 fl_X5_55 (hWg.1) rfl ?_
        refine sw_bipush (v := 8) dX5_reads_35 (by decide) ?_
        refine sw_cmplt (tgt := 46) dX5_reads_37 (by decide) (fun h8 => ?_) (fun h8 => ?_)
        · have h8 : w.n < 8 := (nI_ltI (b := 8) (by have := hW.2.2.2.2.1; omega) (by omega)).mp h8
          exact go g fo hL1 hS1.N (if_neg (fun q => by omega))
        · have h8 : ¬ w.n < 8 := fun z => h8 (nI_lt (b := 8) z (by omega))
          refine sw_aload_n dX5_reads_40 rfl ?_
          refine sw_iconst (v := 3) dX5_reads_41 (by decide) ?_
          refine sw_iload_n dX5_reads_42 rfl ?_
          refine sw_cv2 dX5_reads_43 cv_X5_48 (rc_of hL1.1.1 rfl) (m_fail (s := 3) (w := K.2.1) hL1) (fun r g2 hr => ?_)
          obtain ⟨rfl, hL2, hS2⟩ := hr
          exact go g2 _ hL2 (hS1.N.tr hS2.N) (if_pos ⟨hq, by omega⟩)
    · exact absurd hc (by decide)
theorem m_begin {G : SG} {d n vb : Nat} {h : AH} {tp nm : Nat → Int32} {fo : Int32} {K : K3} (hT : TapeAt h tp n) (hL : TelK h fo vb K nm) : SW G mX5_begin (d + 2) 0 0 0 [.ref 73] [] h (fun r h' => r = none ∧ TelK h' 0 vb (advK tp n (0, 0, 0)) nm ∧ SameL h h') := by
  refine sw_aload_n dX5_begin_0 rfl ?_
  refine sw_iconst (v := 0) dX5_begin_1 (by decide) ?_
  refine sw_puti dX5_begin_2 fl_X5_9 (hL.1.1) (Nat.le_of_ble_eq_true rfl) (fun g1 z1 e1 o1 => ?_)
  refine sw_aload_n dX5_begin_5 rfl ?_
  refine sw_iconst (v := 0) dX5_begin_6 (by decide) ?_
  refine sw_puti dX5_begin_7 fl_X5_34 (e1) (Nat.le_of_ble_eq_true rfl) (fun g2 z2 e2 o2 => ?_)
  have hS : SameL h g2 := ⟨z2.trans z1, fun j hj => (o2 j hj).trans (o1 j hj)⟩
  have hL2 : TelK g2 0 vb (K.1, K.2.1, 0) nm := ⟨⟨e2, (hS.2 _ (by omega)).trans hL.1.2.1, hL.1.2.2⟩, hL.2⟩
  have hA := m_advance (G := G) (d := d) (hT.kept (h' := g2) (fun j a b => hS.2 j (by omega))) hL2.1 (Nat.zero_le n)
  refine sw_aload_n dX5_begin_10 rfl ?_
  refine sw_cv0 dX5_begin_11 cv_X5_41 (rc_of e2 rfl) (hA) (fun r g3 hr => ?_)
  obtain ⟨rfl, hL3, hS3⟩ := hr
  exact sw_return dX5_begin_14 rfl (⟨rfl, ⟨hL3, tkK_le _ _ _⟩, hS.tr hS3⟩)
theorem m_hasMore {G : SG} {d vb : Nat} {h : AH} {nm : Nat → Int32} {fo : Int32} {K : K3} (hL : TelK h fo vb K nm) : SW G mX5_hasMore d 0 0 0 [.ref 73] [] h (fun r h' => r = some (.int (bz (fo = 0 ∧ ¬ K.1 = 0))) ∧ h' = h) := by
  have hK5 := hL.2
  refine sw_aload_n dX5_hasMore_0 rfl ?_
  refine sw_getf dX5_hasMore_1 fl_X5_9 (hL.1.1) rfl ?_
  refine sw_ifne (tgt := 18) dX5_hasMore_4 (by decide) (fun hc => ?_) (fun hc => ?_)
  · refine sw_iconst (v := 0) dX5_hasMore_18 (by decide) ?_
    exact sw_ireturn dX5_hasMore_19 rfl rfl (⟨by rw [bz_0 (fun q => hc q.1)], rfl⟩)
  · refine sw_aload_n dX5_hasMore_7 rfl ?_
    refine sw_getf dX5_hasMore_8 fl_X5_28 (hL.1.1) rfl ?_
    refine sw_ifeq (tgt := 18) dX5_hasMore_11 (by decide) (fun hq => ?_) (fun hq => ?_)
    · have : K.1 = 0 := (nI_eq (b := 0) (by omega) (by omega)).mp hq
      refine sw_iconst (v := 0) dX5_hasMore_18 (by decide) ?_
      exact sw_ireturn dX5_hasMore_19 rfl rfl (⟨by rw [bz_0 (fun q => q.2 this)], rfl⟩)
    · have : ¬ K.1 = 0 := fun z => hq (by rw [z]; rfl)
      refine sw_iconst (v := 1) dX5_hasMore_14 (by decide) ?_
      refine sw_goto (tgt := 19) dX5_hasMore_15 (by decide) ?_
      exact sw_ireturn dX5_hasMore_19 rfl rfl (⟨by rw [bz_1 ⟨hc, this⟩], rfl⟩)
