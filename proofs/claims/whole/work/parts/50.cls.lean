/-! how uneven -/
def togF (w : WS) (m : Nat) : Nat → Int32
  | 0 => 0
  | b + 1 => if m.testBit b = true then togF w m b + w.wt b else togF w m b
def absI (a : Int32) : Int32 := if 0 ≤ a then a else -a
def maxI (a b : Int32) : Int32 := if a < b then b else a
def aprt (w : WS) (m sz b : Nat) : Int32 := nI sz * w.wt b - nI (cntS (tbl sz w.n m w.ks w.wt) (nI b) sz) * togF w m w.n
def unvF (w : WS) (m sz : Nat) : Nat → Int32
  | 0 => 0
  | b + 1 => if m.testBit b = true then maxI (unvF w m sz b) (absI (aprt w m sz b)) else unvF w m sz b
def unv (w : WS) (m sz : Nat) : Int32 := unvF w m sz w.n
theorem k_unevenAt {G : SG} {d b m sz : Nat} {h : AH} {q : Nat} {w : WS} (hb : 9 ≤ b) (hm : m < 256) (hz0 : 1 < sz) (hz : sz ≤ 97) (h0 : h[0]? = some (.inr (6, [.ref 1, .ref 3, .ref b, .ref q, .ref 73]))) (hB : TabAt h) (hW : WorldAt h b w) : SW G mX8_unevenAt (d + 4) 0 0 0 [.ref 0, .int (nI m), .int (nI sz), .retAddr 0, .retAddr 0, .retAddr 0, .retAddr 0] [] h (fun r h' => r = some (.int (unv w m sz)) ∧ SameM h h' 4 ∧ TabAt h') := by
  have hn := hW.2.2.2.2.1
  obtain ⟨t4, h4⟩ := hB.2.1
  refine sw_aload_n dX8_unevenAt_0 rfl ?_
  refine sw_getf dX8_unevenAt_1 fl_X8_19 (h0) rfl ?_
  refine sw_aload_n dX8_unevenAt_4 rfl ?_
  refine sw_getf dX8_unevenAt_5 fl_X8_19 (h0) rfl ?_
  refine sw_getf dX8_unevenAt_8 fl_X8_195 (hB.1) rfl ?_
  refine sw_aload_n dX8_unevenAt_11 rfl ?_
  refine sw_getf dX8_unevenAt_12 fl_X8_28 (h0) rfl ?_
  refine sw_iload_n dX8_unevenAt_15 rfl ?_
  refine sw_iload_n dX8_unevenAt_16 rfl ?_
  refine sw_cv4 dX8_unevenAt_17 cv_X8_260 (rc_of hB.1 rfl) (m_mk (p := sz) (oOk4 hb) hm hz0 hz hB hW.WV h4) (fun r g1 hr => ?_)
  obtain ⟨rfl, hS, hB, t', e1, ht⟩ := hr
  have hW := hW.M hb (by omega) hS
  have h0 := (hS.2 0 (by omega) (by omega) (by omega) (by omega)).trans h0
  have loop2 : ∀ (c i : Nat) (v6 : Value), i + c = w.n → SW G mX8_unevenAt (d + 4) 0 0 71 [.ref 0, .int (nI m), .int (nI sz), .int (togF w m w.n), .int (unvF w m sz i), .int (nI i), v6] [] g1 (fun r h' => r = some (.int (unv w m sz)) ∧ SameM h h' 4 ∧ TabAt h') := by
    intro c
    induction c with
    | zero =>
      intro i v6 hi
      have : i = w.n := by omega
      subst this
      refine sw_iload dX8_unevenAt_71 rfl ?_
      refine sw_aload_n dX8_unevenAt_73 rfl ?_
      refine sw_getf dX8_unevenAt_74 fl_X8_28 (h0) rfl ?_
      refine sw_getf dX8_unevenAt_77 fl_X8_99 (hW.1) rfl ?_
      refine sw_cmpge (tgt := 140) dX8_unevenAt_80 (by decide) (fun hc => ?_) (fun hc => ?_)
      · refine sw_iload dX8_unevenAt_140 rfl ?_
        exact sw_ireturn dX8_unevenAt_142 rfl rfl (⟨rfl, hS, hB⟩)
      · exact absurd (nI_le (Nat.le_refl _) (by omega)) hc
    | succ c ih =>
      intro i v6 hi
      have step : ∀ (v6 : Value) (x : Int32), unvF w m sz (i + 1) = x → SW G mX8_unevenAt (d + 4) 0 0 134 [.ref 0, .int (nI m), .int (nI sz), .int (togF w m w.n), .int x, .int (nI i), v6] [] g1 (fun r h' => r = some (.int (unv w m sz)) ∧ SameM h h' 4 ∧ TabAt h') := by
        intro v6 x hx
        subst hx
        refine sw_iinc (v := nI (i + 1)) dX8_unevenAt_134 rfl (nI_1 i) (by decide) rfl ?_
        refine sw_goto (tgt := 71) dX8_unevenAt_137 (by decide) ?_
        exact ih (i + 1) v6 (by omega)
      refine sw_iload dX8_unevenAt_71 rfl ?_
      refine sw_aload_n dX8_unevenAt_73 rfl ?_
      refine sw_getf dX8_unevenAt_74 fl_X8_28 (h0) rfl ?_
      refine sw_getf dX8_unevenAt_77 fl_X8_99 (hW.1) rfl ?_
      refine sw_cmpge (tgt := 140) dX8_unevenAt_80 (by decide) (fun hc => ?_) (fun hc => ?_)
      · exact absurd hc (nI_ge (by omega) (by omega))
      · refine sw_iload_n dX8_unevenAt_83 rfl ?_
        refine sw_iload dX8_unevenAt_84 rfl ?_
        refine sw_pcs2 dX8_unevenAt_86 cs_X8_222 (m_isAmong (m := m) (b := i) hm (by omega)) ?_
        refine sw_ifeq (tgt := 134) dX8_unevenAt_89 (by decide) (fun hbit => ?_) (fun hbit => ?_)
        · exact step v6 _ (by rw [unvF, if_neg (bz_eq0.mp hbit)])
        · refine sw_iload_n dX8_unevenAt_92 rfl ?_
          refine sw_aload_n dX8_unevenAt_93 rfl ?_
          refine sw_getf dX8_unevenAt_94 fl_X8_28 (h0) rfl ?_
          refine sw_getf dX8_unevenAt_97 fl_X8_109 (hW.1) rfl ?_
          refine sw_iload dX8_unevenAt_100 rfl ?_
          refine sw_iald dX8_unevenAt_102 (hW.2.2.1) (vp_in_nI (by omega) (by omega)) (nIat (by omega) rfl) ?_
          refine sw_imul dX8_unevenAt_103 ?_
          refine sw_aload_n dX8_unevenAt_104 rfl ?_
          refine sw_getf dX8_unevenAt_105 fl_X8_19 (h0) rfl ?_
          refine sw_getf dX8_unevenAt_108 fl_X8_195 (hB.1) rfl ?_
          refine sw_iload_n dX8_unevenAt_111 rfl ?_
          refine sw_iload dX8_unevenAt_112 rfl ?_
          refine sw_pcs3 dX8_unevenAt_114 cs_X8_198 (m_slotsOf e1 (p := sz) (by omega)) ?_
          rw [cntS_congr _ ht]
          refine sw_iload_n dX8_unevenAt_117 rfl ?_
          refine sw_imul dX8_unevenAt_118 ?_
          refine sw_isub dX8_unevenAt_119 ?_
          refine sw_istore dX8_unevenAt_120 (by decide) rfl ?_
          refine sw_iload dX8_unevenAt_122 rfl ?_
          refine sw_iload dX8_unevenAt_124 rfl ?_
          refine sw_pcs1 dX8_unevenAt_126 cs_X8_264 (m_abs) ?_
          refine sw_pcs2 dX8_unevenAt_129 cs_X8_269 (m_max) ?_
          refine sw_istore dX8_unevenAt_132 (by decide) rfl ?_
          exact step _ _ (by rw [unvF, if_pos (bz_eq1.mp hbit)]; rfl)
  have loop1 : ∀ (c i : Nat), i + c = w.n → SW G mX8_unevenAt (d + 4) 0 0 25 [.ref 0, .int (nI m), .int (nI sz), .int (togF w m i), .int (nI i), .retAddr 0, .retAddr 0] [] g1 (fun r h' => r = some (.int (unv w m sz)) ∧ SameM h h' 4 ∧ TabAt h') := by
    intro c
    induction c with
    | zero =>
      intro i hi
      have : i = w.n := by omega
      subst this
      refine sw_iload dX8_unevenAt_25 rfl ?_
      refine sw_aload_n dX8_unevenAt_27 rfl ?_
      refine sw_getf dX8_unevenAt_28 fl_X8_28 (h0) rfl ?_
      refine sw_getf dX8_unevenAt_31 fl_X8_99 (hW.1) rfl ?_
      refine sw_cmpge (tgt := 65) dX8_unevenAt_34 (by decide) (fun hc => ?_) (fun hc => ?_)
      · refine sw_iconst (v := 0) dX8_unevenAt_65 (by decide) ?_
        refine sw_istore dX8_unevenAt_66 (by decide) rfl ?_
        refine sw_iconst (v := 0) dX8_unevenAt_68 (by decide) ?_
        refine sw_istore dX8_unevenAt_69 (by decide) rfl ?_
        exact loop2 w.n 0 _ (by omega)
      · exact absurd (nI_le (Nat.le_refl _) (by omega)) hc
    | succ c ih =>
      intro i hi
      have step : ∀ (x : Int32), togF w m (i + 1) = x → SW G mX8_unevenAt (d + 4) 0 0 59 [.ref 0, .int (nI m), .int (nI sz), .int x, .int (nI i), .retAddr 0, .retAddr 0] [] g1 (fun r h' => r = some (.int (unv w m sz)) ∧ SameM h h' 4 ∧ TabAt h') := by
        intro x hx
        subst hx
        refine sw_iinc (v := nI (i + 1)) dX8_unevenAt_59 rfl (nI_1 i) (by decide) rfl ?_
        refine sw_goto (tgt := 25) dX8_unevenAt_62 (by decide) ?_
        exact ih (i + 1) (by omega)
      refine sw_iload dX8_unevenAt_25 rfl ?_
      refine sw_aload_n dX8_unevenAt_27 rfl ?_
      refine sw_getf dX8_unevenAt_28 fl_X8_28 (h0) rfl ?_
      refine sw_getf dX8_unevenAt_31 fl_X8_99 (hW.1) rfl ?_
      refine sw_cmpge (tgt := 65) dX8_unevenAt_34 (by decide) (fun hc => ?_) (fun hc => ?_)
      · exact absurd hc (nI_ge (by omega) (by omega))
      · refine sw_iload_n dX8_unevenAt_37 rfl ?_
        refine sw_iload dX8_unevenAt_38 rfl ?_
        refine sw_pcs2 dX8_unevenAt_40 cs_X8_222 (m_isAmong (m := m) (b := i) hm (by omega)) ?_
        refine sw_ifeq (tgt := 59) dX8_unevenAt_43 (by decide) (fun hbit => ?_) (fun hbit => ?_)
        · exact step _ (by rw [togF, if_neg (bz_eq0.mp hbit)])
        · refine sw_iload_n dX8_unevenAt_46 rfl ?_
          refine sw_aload_n dX8_unevenAt_47 rfl ?_
          refine sw_getf dX8_unevenAt_48 fl_X8_28 (h0) rfl ?_
          refine sw_getf dX8_unevenAt_51 fl_X8_109 (hW.1) rfl ?_
          refine sw_iload dX8_unevenAt_54 rfl ?_
          refine sw_iald dX8_unevenAt_56 (hW.2.2.1) (vp_in_nI (by omega) (by omega)) (nIat (by omega) rfl) ?_
          refine sw_iadd dX8_unevenAt_57 ?_
          refine sw_istore_n dX8_unevenAt_58 (by decide) rfl ?_
          exact step _ (by rw [togF, if_pos (bz_eq1.mp hbit)])
  refine sw_iconst (v := 0) dX8_unevenAt_20 (by decide) ?_
  refine sw_istore_n dX8_unevenAt_21 (by decide) rfl ?_
  refine sw_iconst (v := 0) dX8_unevenAt_22 (by decide) ?_
  refine sw_istore dX8_unevenAt_23 (by decide) rfl ?_
  exact loop1 w.n 0 (by omega)
def c_uneven (s : CS) (g : Int32) : Int32 := if (0 ≤ g ∧ g ≤ 3) ∧ ¬ nI (wU s.1 g.toNatClampNeg) = 0 then unv s.1 (wU s.1 g.toNatClampNeg) s.1.p else -1
theorem k_uneven {G : SG} {d : Nat} {h : AH} {s : CS} {g : Int32} (hC : CA h s) (hI : wOk s.1) : SW G mX8_uneven (d + 8) 0 0 0 [.ref 0, .int g] [] h (fun r h' => r = some (.int (c_uneven s g)) ∧ CA h' s ∧ SameC h h') := by
  obtain ⟨b, q, vb, K, nm, H⟩ := hC
  obtain ⟨hbq, h0, hW, hQ, hT, hL, hB⟩ := id H
  have hb : 9 ≤ b := by omega
  have hp := hI.1
  unfold c_uneven
  refine sw_iload_n dX8_uneven_0 rfl ?_
  refine sw_pcs1 dX8_uneven_1 cs_X8_112 (m_isGate) ?_
  refine sw_ifeq (tgt := 22) dX8_uneven_4 (by decide) (fun h1 => ?_) (fun h1 => ?_)
  · rw [if_neg (fun q => bz_eq0.mp h1 q.1)]
    refine sw_iconst (v := (-1)) dX8_uneven_22 (by decide) ?_
    exact sw_ireturn dX8_uneven_23 rfl rfl (⟨rfl, H.A, SameC.rf⟩)
  · have h1 := bz_eq1.mp h1
    obtain ⟨gi, hgi, rfl⟩ := ga_of h1
    rw [nI_clamp (by omega)]
    obtain ⟨f, hf, hf4⟩ := hW.2.2.2.1
    have hG := hW.2.2.2.2.2 gi hgi
    refine sw_aload_n dX8_uneven_7 rfl ?_
    refine sw_getf dX8_uneven_8 fl_X8_28 (h0) rfl ?_
    refine sw_getf dX8_uneven_11 fl_X8_147 (hW.1) rfl ?_
    refine sw_iload_n dX8_uneven_14 rfl ?_
    refine sw_aald dX8_uneven_15 (hf) (vp_in_nI (by omega) (by omega)) (nIat (by omega) (hf4 gi hgi)) ?_
    refine sw_pcv0 dX8_uneven_16 cv_X8_156 (rc_of hG.1 rfl) (m_ups hG) ?_
    refine sw_ifne (tgt := 24) dX8_uneven_19 (by decide) (fun h2 => ?_) (fun h2 => ?_)
    · rw [if_pos ⟨h1, h2⟩]
      refine sw_aload_n dX8_uneven_24 rfl ?_
      refine sw_aload_n dX8_uneven_25 rfl ?_
      refine sw_getf dX8_uneven_26 fl_X8_28 (h0) rfl ?_
      refine sw_getf dX8_uneven_29 fl_X8_147 (hW.1) rfl ?_
      refine sw_iload_n dX8_uneven_32 rfl ?_
      refine sw_aald dX8_uneven_33 (hf) (vp_in_nI (by omega) (by omega)) (nIat (by omega) (hf4 gi hgi)) ?_
      refine sw_pcv0 dX8_uneven_34 cv_X8_156 (rc_of hG.1 rfl) (m_ups hG) ?_
      refine sw_aload_n dX8_uneven_37 rfl ?_
      refine sw_getf dX8_uneven_38 fl_X8_28 (h0) rfl ?_
      refine sw_getf dX8_uneven_41 fl_X8_82 (hW.1) rfl ?_
      refine sw_cv2 dX8_uneven_44 cv_X8_209 (rc_of h0 rfl) (k_unevenAt (m := wU s.1 gi) (sz := s.1.p) hb (wU_lt _ _) (by omega) (by omega) h0 hB hW) (fun r g1 hr => ?_)
      obtain ⟨rfl, hS, hB⟩ := hr
      obtain ⟨H1, HS⟩ := H.U (hW.M hb (by omega) hS) hB (hS.U (Or.inl (by omega)))
      exact sw_ireturn dX8_uneven_47 rfl rfl (⟨rfl, H1.A, HS⟩)
    · rw [if_neg (fun q => q.2 h2)]
      refine sw_iconst (v := (-1)) dX8_uneven_22 (by decide) ?_
      exact sw_ireturn dX8_uneven_23 rfl rfl (⟨rfl, H.A, SameC.rf⟩)
def evnF (w : WS) (m : Nat) : Nat → Nat × Int32
  | 0 => (3, unv w m 3)
  | i + 1 => if unv w m (szN.getD (i + 1) 0) * nI (evnF w m i).1 < (evnF w m i).2 * nI (szN.getD (i + 1) 0) then (szN.getD (i + 1) 0, unv w m (szN.getD (i + 1) 0)) else evnF w m i
def c_evenest (s : CS) (g : Int32) : Int32 := if (0 ≤ g ∧ g ≤ 3) ∧ ¬ nI (wU s.1 g.toNatClampNeg) = 0 then nI (evnF s.1 (wU s.1 g.toNatClampNeg) 23).1 else -1
theorem szN_at : ∀ i, i < 24 → 1 < szN.getD i 0 ∧ szN.getD i 0 ≤ 97 := by decide +kernel
theorem k_evenest {G : SG} {d : Nat} {h : AH} {s : CS} {g : Int32} (hC : CA h s) : SW G mX8_evenest (d + 8) 0 0 0 [.ref 0, .int g, .retAddr 0, .retAddr 0, .retAddr 0, .retAddr 0, .retAddr 0] [] h (fun r h' => r = some (.int (c_evenest s g)) ∧ CA h' s ∧ SameC h h') := by
  obtain ⟨b, q, vb, K, nm, H⟩ := hC
  obtain ⟨hbq, h0, hW, hQ, hT, hL, hB⟩ := id H
  have hb : 9 ≤ b := by omega
  unfold c_evenest
  refine sw_iload_n dX8_evenest_0 rfl ?_
  refine sw_pcs1 dX8_evenest_1 cs_X8_112 (m_isGate) ?_
  refine sw_ifeq (tgt := 22) dX8_evenest_4 (by decide) (fun h1 => ?_) (fun h1 => ?_)
  · rw [if_neg (fun q => bz_eq0.mp h1 q.1)]
    refine sw_iconst (v := (-1)) dX8_evenest_22 (by decide) ?_
    exact sw_ireturn dX8_evenest_23 rfl rfl (⟨rfl, H.A, SameC.rf⟩)
  · have h1 := bz_eq1.mp h1
    obtain ⟨gi, hgi, rfl⟩ := ga_of h1
    rw [nI_clamp (by omega)]
    obtain ⟨f, hf, hf4⟩ := hW.2.2.2.1
    have hG := hW.2.2.2.2.2 gi hgi
    have hm := wU_lt s.1 gi
    refine sw_aload_n dX8_evenest_7 rfl ?_
    refine sw_getf dX8_evenest_8 fl_X8_28 (h0) rfl ?_
    refine sw_getf dX8_evenest_11 fl_X8_147 (hW.1) rfl ?_
    refine sw_iload_n dX8_evenest_14 rfl ?_
    refine sw_aald dX8_evenest_15 (hf) (vp_in_nI (by omega) (by omega)) (nIat (by omega) (hf4 gi hgi)) ?_
    refine sw_pcv0 dX8_evenest_16 cv_X8_156 (rc_of hG.1 rfl) (m_ups hG) ?_
    refine sw_ifne (tgt := 24) dX8_evenest_19 (by decide) (fun h2 => ?_) (fun h2 => ?_)
    · rw [if_pos ⟨h1, h2⟩]
      have loop : ∀ (c i : Nat) (h1 : AH) (v6 : Value), i + c = 23 → SameU h h1 b → h1[0]? = some (.inr (6, [.ref 1, .ref 3, .ref b, .ref q, .ref 73])) → TabAt h1 → WorldAt h1 b s.1 → SW G mX8_evenest (d + 8) 0 0 54 [.ref 0, .int (nI gi), .int (nI (wU s.1 gi)), .int (nI (evnF s.1 (wU s.1 gi) i).1), .int (evnF s.1 (wU s.1 gi) i).2, .int (nI (i + 1)), v6] [] h1 (fun r h' => r = some (.int (nI (evnF s.1 (wU s.1 gi) 23).1)) ∧ CA h' s ∧ SameC h h') := by
        intro c
        induction c with
        | zero =>
          intro i h1 v6 hi hU h0 hB hW
          have : i = 23 := by omega
          subst this
          obtain ⟨H1, HS⟩ := H.U hW hB hU
          refine sw_iload dX8_evenest_54 rfl ?_
          refine sw_gets (v := .ref 1081) dX8_evenest_56 w_359 (by decide +kernel) ?_
          refine sw_alenR (v := 24) dX8_evenest_59 (szs_mem) (by decide) ?_
          refine sw_cmpge (tgt := 109) dX8_evenest_60 (by decide) (fun hc => ?_) (fun hc => ?_)
          · refine sw_iload_n dX8_evenest_109 rfl ?_
            exact sw_ireturn dX8_evenest_110 rfl rfl (⟨rfl, H1.A, HS⟩)
          · exact absurd (nI_le (a := 24) (b := 24) (Nat.le_refl _) (by omega)) hc
        | succ c ih =>
          intro i h1 v6 hi hU h0 hB hW
          have hsz := szN_at (i + 1) (by omega)
          have sld : (fun i => szs.getD i .null) (nI (i + 1)).toNatClampNeg = .int (nI (szN.getD (i + 1) 0)) := nIat (f := fun i => szs.getD i .null) (by omega) (szs_at (i + 1) (by omega))
          have hin : vp_in (nI (i + 1)) 24 := vp_in_nI (by omega) (by omega)
          have step : ∀ (h2 : AH) (v6 : Value) (x : Nat × Int32), evnF s.1 (wU s.1 gi) (i + 1) = x → SameU h h2 b → h2[0]? = some (.inr (6, [.ref 1, .ref 3, .ref b, .ref q, .ref 73])) → TabAt h2 → WorldAt h2 b s.1 → SW G mX8_evenest (d + 8) 0 0 103 [.ref 0, .int (nI gi), .int (nI (wU s.1 gi)), .int (nI x.1), .int x.2, .int (nI (i + 1)), v6] [] h2 (fun r h' => r = some (.int (nI (evnF s.1 (wU s.1 gi) 23).1)) ∧ CA h' s ∧ SameC h h') := by
            intro h2 v6 x hx hU h0 hB hW
            subst hx
            refine sw_iinc (v := nI (i + 1 + 1)) dX8_evenest_103 rfl (nI_1 _) (by decide) rfl ?_
            refine sw_goto (tgt := 54) dX8_evenest_106 (by decide) ?_
            exact ih (i + 1) h2 v6 (by omega) hU h0 hB hW
          refine sw_iload dX8_evenest_54 rfl ?_
          refine sw_gets (v := .ref 1081) dX8_evenest_56 w_359 (by decide +kernel) ?_
          refine sw_alenR (v := 24) dX8_evenest_59 (szs_mem) (by decide) ?_
          refine sw_cmpge (tgt := 109) dX8_evenest_60 (by decide) (fun hc => ?_) (fun hc => ?_)
          · exact absurd hc (nI_ge (b := 24) (by omega) (by omega))
          · refine sw_aload_n dX8_evenest_63 rfl ?_
            refine sw_iload_n dX8_evenest_64 rfl ?_
            refine sw_gets (v := .ref 1081) dX8_evenest_65 w_359 (by decide +kernel) ?_
            refine sw_iload dX8_evenest_68 rfl ?_
            refine sw_ialdR (v := .int (nI (szN.getD (i + 1) 0))) dX8_evenest_70 (szs_mem) (hin) (sld) ?_
            refine sw_cv2 dX8_evenest_71 cv_X8_209 (rc_of h0 rfl) (k_unevenAt (m := wU s.1 gi) (sz := szN.getD (i + 1) 0) hb hm (by omega) (by omega) h0 hB hW) (fun r g1 hr => ?_)
            obtain ⟨rfl, hS, hB⟩ := hr
            have hW := hW.M hb (by omega) hS
            have h0 := (hS.2 0 (by omega) (by omega) (by omega) (by omega)).trans h0
            have hU := hU.tr (hS.U (Or.inl (by omega)))
            refine sw_istore dX8_evenest_74 (by decide) rfl ?_
            refine sw_iload dX8_evenest_76 rfl ?_
            refine sw_iload_n dX8_evenest_78 rfl ?_
            refine sw_imul dX8_evenest_79 ?_
            refine sw_iload dX8_evenest_80 rfl ?_
            refine sw_gets (v := .ref 1081) dX8_evenest_82 w_359 (by decide +kernel) ?_
            refine sw_iload dX8_evenest_85 rfl ?_
            refine sw_ialdR (v := .int (nI (szN.getD (i + 1) 0))) dX8_evenest_87 (szs_mem) (hin) (sld) ?_
            refine sw_imul dX8_evenest_88 ?_
            refine sw_cmpge (tgt := 103) dX8_evenest_89 (by decide) (fun hlt => ?_) (fun hlt => ?_)
            · exact step g1 _ _ (by rw [evnF, if_neg]; intro q; have a := Int32.lt_iff_toInt_lt.mp q; have b := Int32.le_iff_toInt_le.mp hlt; omega) hU h0 hB hW
            · refine sw_gets (v := .ref 1081) dX8_evenest_92 w_359 (by decide +kernel) ?_
              refine sw_iload dX8_evenest_95 rfl ?_
              refine sw_ialdR (v := .int (nI (szN.getD (i + 1) 0))) dX8_evenest_97 (szs_mem) (hin) (sld) ?_
              refine sw_istore_n dX8_evenest_98 (by decide) rfl ?_
              refine sw_iload dX8_evenest_99 rfl ?_
              refine sw_istore dX8_evenest_101 (by decide) rfl ?_
              exact step g1 _ (szN.getD (i + 1) 0, unv s.1 (wU s.1 gi) (szN.getD (i + 1) 0)) (by rw [evnF, if_pos]; have b := mt Int32.le_iff_toInt_le.mpr hlt; exact Int32.lt_iff_toInt_lt.mpr (by omega)) hU h0 hB hW
      refine sw_aload_n dX8_evenest_24 rfl ?_
      refine sw_getf dX8_evenest_25 fl_X8_28 (h0) rfl ?_
      refine sw_getf dX8_evenest_28 fl_X8_147 (hW.1) rfl ?_
      refine sw_iload_n dX8_evenest_31 rfl ?_
      refine sw_aald dX8_evenest_32 (hf) (vp_in_nI (by omega) (by omega)) (nIat (by omega) (hf4 gi hgi)) ?_
      refine sw_pcv0 dX8_evenest_33 cv_X8_156 (rc_of hG.1 rfl) (m_ups hG) ?_
      refine sw_istore_n dX8_evenest_36 (by decide) rfl ?_
      refine sw_gets (v := .ref 1081) dX8_evenest_37 w_359 (by decide +kernel) ?_
      refine sw_iconst (v := 0) dX8_evenest_40 (by decide) ?_
      refine sw_ialdR (v := .int (nI 3)) dX8_evenest_41 (szs_mem) (vp_in_nI (n := 0) (by omega) (by omega)) (rfl) ?_
      refine sw_istore_n dX8_evenest_42 (by decide) rfl ?_
      refine sw_aload_n dX8_evenest_43 rfl ?_
      refine sw_iload_n dX8_evenest_44 rfl ?_
      refine sw_iload_n dX8_evenest_45 rfl ?_
      refine sw_cv2 dX8_evenest_46 cv_X8_209 (rc_of h0 rfl) (k_unevenAt (m := wU s.1 gi) (sz := 3) hb hm (by omega) (by omega) h0 hB hW) (fun r g1 hr => ?_)
      obtain ⟨rfl, hS, hB⟩ := hr
      have hW := hW.M hb (by omega) hS
      have h0 := (hS.2 0 (by omega) (by omega) (by omega) (by omega)).trans h0
      refine sw_istore dX8_evenest_49 (by decide) rfl ?_
      refine sw_iconst (v := 1) dX8_evenest_51 (by decide) ?_
      refine sw_istore dX8_evenest_52 (by decide) rfl ?_
      exact loop 23 0 g1 _ (by omega) (hS.U (Or.inl (by omega))) h0 hB hW
    · rw [if_neg (fun q => q.2 h2)]
      refine sw_iconst (v := (-1)) dX8_evenest_22 (by decide) ?_
      exact sw_ireturn dX8_evenest_23 rfl rfl (⟨rfl, H.A, SameC.rf⟩)
/-! a share as bits -/
def btF : Nat → Int32 → UInt32 → Int32 × UInt32
  | 0, e, x => (e, x)
  | c + 1, e, x => if 0 ≤ Op.cmpValue (FP.fcmp x FP.fconst1) .g then (e, x) else btF c (e + (-1)) (FP.fmul x FP.fconst2)
def btG : Nat → UInt32 → Bool
  | 0, _ => true
  | c + 1, x => if 0 ≤ Op.cmpValue (FP.fcmp x FP.fconst1) .g then true else decide (FP.fmul x FP.fconst2 &&& 2147483647 ≤ 2139095040) && btG c (FP.fmul x FP.fconst2)
