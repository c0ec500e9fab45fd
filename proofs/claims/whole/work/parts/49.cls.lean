/-! answers from tables beside one another -/
def c_changed (s : CS) (g v : Int32) : Int32 := if (0 ≤ g ∧ g ≤ 3) ∧ ¬ (s.1.gs g.toNatClampNeg).2.2.1 = 0 then (if 10 ≤ v ∧ (0 ≤ v - 10 ∧ v - 10 < nI s.1.p) then (s.1.gs g.toNatClampNeg).2.1 (v - 10).toNatClampNeg else if v = 0 ∨ v = 1 then nI (chg (s.1.gs g.toNatClampNeg).2.1 (wT s.1 (wU s.1 g.toNatClampNeg)) (wU s.1 g.toNatClampNeg) (if v = 1 then 1 else 0) s.1.p) else -1) else -1
def kpOk (w : WS) : Prop := ∀ i, i < 4 → ¬ (w.gs i).2.2.1 = 0 → rg8 (w.gs i).2.1 w.p
theorem k_changed {G : SG} {d : Nat} {h : AH} {s : CS} {g v : Int32} (hC : CA h s) (hI : wOk s.1) (hK : kpOk s.1) : SW G mX8_changed (d + 8) 0 0 0 [.ref 0, .int g, .int v, .retAddr 0] [] h (fun r h' => r = some (.int (c_changed s g v)) ∧ CA h' s ∧ SameC h h') := by
  obtain ⟨b, q, vb, K, nm, H⟩ := hC
  obtain ⟨hbq, h0, hW, hQ, hT, hL, hB⟩ := id H
  have hb : 9 ≤ b := by omega
  have hp := hI.1
  unfold c_changed
  refine sw_iload_n dX8_changed_0 rfl ?_
  refine sw_pcs1 dX8_changed_1 cs_X8_112 (m_isGate) ?_
  refine sw_ifeq (tgt := 22) dX8_changed_4 (by decide) (fun h1 => ?_) (fun h1 => ?_)
  · rw [if_neg (fun q => bz_eq0.mp h1 q.1)]
    refine sw_iconst (v := (-1)) dX8_changed_22 (by decide) ?_
    exact sw_ireturn dX8_changed_23 rfl rfl (⟨rfl, H.A, SameC.rf⟩)
  · have h1 := bz_eq1.mp h1
    obtain ⟨gi, hgi, rfl⟩ := ga_of h1
    obtain ⟨f, hf, hf4⟩ := hW.2.2.2.1
    have hG := hW.2.2.2.2.2 gi hgi
    simp only [nI_clamp (show gi < 2 ^ 31 by omega)]
    refine sw_aload_n dX8_changed_7 rfl ?_
    refine sw_getf dX8_changed_8 fl_X8_28 (h0) rfl ?_
    refine sw_getf dX8_changed_11 fl_X8_147 (hW.1) rfl ?_
    refine sw_iload_n dX8_changed_14 rfl ?_
    refine sw_aald dX8_changed_15 (hf) (vp_in_nI (by omega) (by omega)) (nIat (by omega) (hf4 gi hgi)) ?_
    refine sw_getf dX8_changed_16 fl_X8_164 (hG.1) rfl ?_
    refine sw_ifne (tgt := 24) dX8_changed_19 (by decide) (fun h2 => ?_) (fun h2 => ?_)
    · rw [if_pos ⟨h1, h2⟩]
      have rest : ¬ (10 ≤ v ∧ (0 ≤ v - 10 ∧ v - 10 < nI s.1.p)) → SW G mX8_changed (d + 8) 0 0 64 [.ref 0, .int (nI gi), .int v, .ref (b + 4 + 7 * gi)] [] h (fun r h' => r = some (.int (if 10 ≤ v ∧ (0 ≤ v - 10 ∧ v - 10 < nI s.1.p) then (s.1.gs gi).2.1 (v - 10).toNatClampNeg else if v = 0 ∨ v = 1 then nI (chg (s.1.gs gi).2.1 (wT s.1 (wU s.1 gi)) (wU s.1 gi) (if v = 1 then 1 else 0) s.1.p) else -1)) ∧ CA h' s ∧ SameC h h') := by
        intro hno
        rw [if_neg hno]
        have go : (v = 0 ∨ v = 1) → SW G mX8_changed (d + 8) 0 0 75 [.ref 0, .int (nI gi), .int v, .ref (b + 4 + 7 * gi)] [] h (fun r h' => r = some (.int (if v = 0 ∨ v = 1 then nI (chg (s.1.gs gi).2.1 (wT s.1 (wU s.1 gi)) (wU s.1 gi) (if v = 1 then 1 else 0) s.1.p) else -1)) ∧ CA h' s ∧ SameC h h') := by
          intro hv
          rw [if_pos hv]
          obtain ⟨t4, h4⟩ := hB.2.1
          refine sw_aload_n dX8_changed_75 rfl ?_
          refine sw_aload_n dX8_changed_76 rfl ?_
          refine sw_getf dX8_changed_77 fl_X8_19 (h0) rfl ?_
          refine sw_getf dX8_changed_80 fl_X8_195 (hB.1) rfl ?_
          refine sw_aload_n dX8_changed_83 rfl ?_
          refine sw_pcv0 dX8_changed_84 cv_X8_156 (rc_of hG.1 rfl) (m_ups hG) ?_
          refine sw_cv2 dX8_changed_87 cv_X8_160 (rc_of h0 rfl) (k_makeTable (o := 4) (m := wU s.1 gi) (oOk4 hb) (wU_lt _ _) (by omega) (by omega) h0 hB hW h4) (fun r g1 hr => ?_)
          obtain ⟨rfl, hS, hB, t', e1, ht⟩ := hr
          have hW := hW.M hb (by omega) hS
          have h0 := (hS.2 0 (by omega) (by omega) (by omega) (by omega)).trans h0
          have hG := hW.2.2.2.2.2 gi hgi
          obtain ⟨H1, HS⟩ := H.U hW hB (hS.U (Or.inl (by omega)))
          refine sw_aload_n dX8_changed_90 rfl ?_
          refine sw_aload_n dX8_changed_91 rfl ?_
          refine sw_getf dX8_changed_92 fl_X8_151 (hG.1) rfl ?_
          refine sw_aload_n dX8_changed_95 rfl ?_
          refine sw_getf dX8_changed_96 fl_X8_19 (h0) rfl ?_
          refine sw_getf dX8_changed_99 fl_X8_195 (hB.1) rfl ?_
          refine sw_aload_n dX8_changed_102 rfl ?_
          refine sw_pcv0 dX8_changed_103 cv_X8_156 (rc_of hG.1 rfl) (m_ups hG) ?_
          refine sw_iload_n dX8_changed_106 rfl ?_
          refine sw_iconst (v := 1) dX8_changed_107 (by decide) ?_
          refine sw_cmpne (tgt := 115) dX8_changed_108 (by decide) (fun hv1 => ?_) (fun hv1 => ?_)
          · rw [if_neg hv1]
            refine sw_iconst (v := 0) dX8_changed_115 (by decide) ?_
            refine sw_pcv4 dX8_changed_116 cv_X8_215 (rc_of h0 rfl) (k_changes (m := wU s.1 gi) (z := 0) (wU_lt _ _) (by omega) h0 hW hG.2.2.1 e1 (fun x => absurd rfl x)) ?_
            exact sw_ireturn dX8_changed_119 rfl rfl (⟨by rw [chg_congr _ (fun _ _ => rfl) ht], H1.A, HS⟩)
          · rw [if_pos hv1]
            refine sw_iconst (v := 1) dX8_changed_111 (by decide) ?_
            refine sw_goto (tgt := 116) dX8_changed_112 (by decide) ?_
            refine sw_pcv4 dX8_changed_116 cv_X8_215 (rc_of h0 rfl) (k_changes (m := wU s.1 gi) (z := 1) (wU_lt _ _) (by omega) h0 hW hG.2.2.1 e1 (fun _ => hK gi hgi h2)) ?_
            exact sw_ireturn dX8_changed_119 rfl rfl (⟨by rw [chg_congr _ (fun _ _ => rfl) ht], H1.A, HS⟩)
        refine sw_iload_n dX8_changed_64 rfl ?_
        refine sw_ifeq (tgt := 75) dX8_changed_65 (by decide) (fun e0 => ?_) (fun e0 => ?_)
        · exact go (Or.inl e0)
        · refine sw_iload_n dX8_changed_68 rfl ?_
          refine sw_iconst (v := 1) dX8_changed_69 (by decide) ?_
          refine sw_cmpeq (tgt := 75) dX8_changed_70 (by decide) (fun e1 => ?_) (fun e1 => ?_)
          · exact go (Or.inr e1)
          · rw [if_neg (fun q => q.elim e0 e1)]
            refine sw_iconst (v := (-1)) dX8_changed_73 (by decide) ?_
            exact sw_ireturn dX8_changed_74 rfl rfl (⟨rfl, H.A, SameC.rf⟩)
      refine sw_aload_n dX8_changed_24 rfl ?_
      refine sw_getf dX8_changed_25 fl_X8_28 (h0) rfl ?_
      refine sw_getf dX8_changed_28 fl_X8_147 (hW.1) rfl ?_
      refine sw_iload_n dX8_changed_31 rfl ?_
      refine sw_aald dX8_changed_32 (hf) (vp_in_nI (by omega) (by omega)) (nIat (by omega) (hf4 gi hgi)) ?_
      refine sw_astore_n dX8_changed_33 (by decide) rfl ?_
      refine sw_iload_n dX8_changed_34 rfl ?_
      refine sw_bipush (v := 10) dX8_changed_35 (by decide) ?_
      refine sw_cmplt (tgt := 64) dX8_changed_37 (by decide) (fun h3 => ?_) (fun h3 => ?_)
      · exact rest (fun q => by
          have h3' := Int32.lt_iff_toInt_lt.mp h3
          have := Int32.le_iff_toInt_le.mp q.1
          omega)
      · have h10 : 10 ≤ v := by
          have h3' := mt Int32.lt_iff_toInt_lt.mpr h3
          exact Int32.le_iff_toInt_le.mpr (by omega)
        refine sw_aload_n dX8_changed_40 rfl ?_
        refine sw_getf dX8_changed_41 fl_X8_28 (h0) rfl ?_
        refine sw_iload_n dX8_changed_44 rfl ?_
        refine sw_bipush (v := 10) dX8_changed_45 (by decide) ?_
        refine sw_isub dX8_changed_47 ?_
        refine sw_pcv1 dX8_changed_48 cv_X8_189 (rc_of hW.1 rfl) (m_isSlot hW) ?_
        refine sw_ifeq (tgt := 64) dX8_changed_51 (by decide) (fun h4 => ?_) (fun h4 => ?_)
        · exact rest (fun q => bz_eq0.mp h4 q.2)
        · have h4 := bz_eq1.mp h4
          rw [if_pos ⟨h10, h4⟩]
          obtain ⟨i, hi, hv⟩ := ba_of (by omega) h4
          refine sw_aload_n dX8_changed_54 rfl ?_
          refine sw_getf dX8_changed_55 fl_X8_151 (hG.1) rfl ?_
          refine sw_iload_n dX8_changed_58 rfl ?_
          refine sw_bipush (v := 10) dX8_changed_59 (by decide) ?_
          refine sw_isub dX8_changed_61 ?_
          refine sw_iald dX8_changed_62 (hG.2.2.1) (by rw [hv]; exact vp_in_nI (by omega) (by omega)) (rfl) ?_
          exact sw_ireturn dX8_changed_63 rfl rfl (⟨rfl, H.A, SameC.rf⟩)
    · rw [if_neg (fun q => q.2 h2)]
      refine sw_iconst (v := (-1)) dX8_changed_22 (by decide) ?_
      exact sw_ireturn dX8_changed_23 rfl rfl (⟨rfl, H.A, SameC.rf⟩)
def c_alike (s : CS) (g o : Int32) : Int32 := if (0 ≤ g ∧ g ≤ 3) ∧ (0 ≤ o ∧ o ≤ 3) then nI s.1.p - nI (chg (wT s.1 (wU s.1 g.toNatClampNeg)) (wT s.1 (wU s.1 o.toNatClampNeg)) 0 0 s.1.p) else -1
theorem k_alike {G : SG} {d : Nat} {h : AH} {s : CS} {g o : Int32} (hC : CA h s) (hI : wOk s.1) : SW G mX8_alike (d + 8) 0 0 0 [.ref 0, .int g, .int o] [] h (fun r h' => r = some (.int (c_alike s g o)) ∧ CA h' s ∧ SameC h h') := by
  obtain ⟨b, q, vb, K, nm, H⟩ := hC
  obtain ⟨hbq, h0, hW, hQ, hT, hL, hB⟩ := id H
  have hb : 9 ≤ b := by omega
  have hp := hI.1
  unfold c_alike
  refine sw_iload_n dX8_alike_0 rfl ?_
  refine sw_pcs1 dX8_alike_1 cs_X8_112 (m_isGate) ?_
  refine sw_ifeq (tgt := 14) dX8_alike_4 (by decide) (fun h1 => ?_) (fun h1 => ?_)
  · rw [if_neg (fun q => bz_eq0.mp h1 q.1)]
    refine sw_iconst (v := (-1)) dX8_alike_14 (by decide) ?_
    exact sw_ireturn dX8_alike_15 rfl rfl (⟨rfl, H.A, SameC.rf⟩)
  · have h1 := bz_eq1.mp h1
    refine sw_iload_n dX8_alike_7 rfl ?_
    refine sw_pcs1 dX8_alike_8 cs_X8_112 (m_isGate) ?_
    refine sw_ifne (tgt := 16) dX8_alike_11 (by decide) (fun h2 => ?_) (fun h2 => ?_)
    · have h2 := bz_eq1.mp h2
      rw [if_pos ⟨h1, h2⟩]
      obtain ⟨gi, hgi, rfl⟩ := ga_of h1
      obtain ⟨oi, hoi, rfl⟩ := ga_of h2
      rw [nI_clamp (by omega), nI_clamp (by omega)]
      obtain ⟨f, hf, hf4⟩ := hW.2.2.2.1
      have hG := hW.2.2.2.2.2 gi hgi
      obtain ⟨t4, h4⟩ := hB.2.1
      refine sw_aload_n dX8_alike_16 rfl ?_
      refine sw_aload_n dX8_alike_17 rfl ?_
      refine sw_getf dX8_alike_18 fl_X8_19 (h0) rfl ?_
      refine sw_getf dX8_alike_21 fl_X8_195 (hB.1) rfl ?_
      refine sw_aload_n dX8_alike_24 rfl ?_
      refine sw_getf dX8_alike_25 fl_X8_28 (h0) rfl ?_
      refine sw_getf dX8_alike_28 fl_X8_147 (hW.1) rfl ?_
      refine sw_iload_n dX8_alike_31 rfl ?_
      refine sw_aald dX8_alike_32 (hf) (vp_in_nI (by omega) (by omega)) (nIat (by omega) (hf4 gi hgi)) ?_
      refine sw_pcv0 dX8_alike_33 cv_X8_156 (rc_of hG.1 rfl) (m_ups hG) ?_
      refine sw_cv2 dX8_alike_36 cv_X8_160 (rc_of h0 rfl) (k_makeTable (o := 4) (m := wU s.1 gi) (oOk4 hb) (wU_lt _ _) (by omega) (by omega) h0 hB hW h4) (fun r g1 hr => ?_)
      obtain ⟨rfl, hS, hB, t', e1, ht⟩ := hr
      have hW := hW.M hb (by omega) hS
      have h0 := (hS.2 0 (by omega) (by omega) (by omega) (by omega)).trans h0
      have hG := hW.2.2.2.2.2 oi hoi
      obtain ⟨f, hf, hf4⟩ := hW.2.2.2.1
      obtain ⟨t5, h5⟩ := hB.2.2.1
      refine sw_aload_n dX8_alike_39 rfl ?_
      refine sw_aload_n dX8_alike_40 rfl ?_
      refine sw_getf dX8_alike_41 fl_X8_19 (h0) rfl ?_
      refine sw_getf dX8_alike_44 fl_X8_219 (hB.1) rfl ?_
      refine sw_aload_n dX8_alike_47 rfl ?_
      refine sw_getf dX8_alike_48 fl_X8_28 (h0) rfl ?_
      refine sw_getf dX8_alike_51 fl_X8_147 (hW.1) rfl ?_
      refine sw_iload_n dX8_alike_54 rfl ?_
      refine sw_aald dX8_alike_55 (hf) (vp_in_nI (by omega) (by omega)) (nIat (by omega) (hf4 oi hoi)) ?_
      refine sw_pcv0 dX8_alike_56 cv_X8_156 (rc_of hG.1 rfl) (m_ups hG) ?_
      refine sw_cv2 dX8_alike_59 cv_X8_160 (rc_of h0 rfl) (k_makeTable (o := 5) (m := wU s.1 oi) (oOk5 hb) (wU_lt _ _) (by omega) (by omega) h0 hB hW h5) (fun r g2 hr => ?_)
      obtain ⟨rfl, hS2, hB, t2, e2, ht2⟩ := hr
      have hW := hW.M hb (by omega) hS2
      have h0 := (hS2.2 0 (by omega) (by omega) (by omega) (by omega)).trans h0
      have e1 := (hS2.2 4 (by omega) (by omega) (by omega) (by omega)).trans e1
      obtain ⟨H1, HS⟩ := H.U hW hB ((hS.U (Or.inl (by omega))).tr (hS2.U (Or.inl (by omega))))
      refine sw_aload_n dX8_alike_62 rfl ?_
      refine sw_getf dX8_alike_63 fl_X8_28 (h0) rfl ?_
      refine sw_getf dX8_alike_66 fl_X8_82 (hW.1) rfl ?_
      refine sw_aload_n dX8_alike_69 rfl ?_
      refine sw_aload_n dX8_alike_70 rfl ?_
      refine sw_getf dX8_alike_71 fl_X8_19 (h0) rfl ?_
      refine sw_getf dX8_alike_74 fl_X8_195 (hB.1) rfl ?_
      refine sw_aload_n dX8_alike_77 rfl ?_
      refine sw_getf dX8_alike_78 fl_X8_19 (h0) rfl ?_
      refine sw_getf dX8_alike_81 fl_X8_219 (hB.1) rfl ?_
      refine sw_iconst (v := 0) dX8_alike_84 (by decide) ?_
      refine sw_iconst (v := 0) dX8_alike_85 (by decide) ?_
      refine sw_pcv4 dX8_alike_86 cv_X8_215 (rc_of h0 rfl) (k_changes (m := 0) (z := 0) (by omega) (by omega) h0 hW e1 e2 (fun x => absurd rfl x)) ?_
      refine sw_isub dX8_alike_89 ?_
      exact sw_ireturn dX8_alike_90 rfl rfl (⟨by rw [chg_congr _ ht ht2], H1.A, HS⟩)
    · rw [if_neg (fun q => bz_eq0.mp h2 q.2)]
      refine sw_iconst (v := (-1)) dX8_alike_14 (by decide) ?_
      exact sw_ireturn dX8_alike_15 rfl rfl (⟨rfl, H.A, SameC.rf⟩)
def clr (m b : Nat) : Nat := if m.testBit b = true then m - 2 ^ b else m
theorem clr_bit : ∀ m, m < 256 → ∀ b, b < 8 → nI m &&& ((1 : Int32) <<< (nI b &&& 31) ^^^ (-1)) = nI (clr m b) := by decide +kernel
theorem clr_lt {m b : Nat} (h : m < 256) : clr m b < 256 := by
  unfold clr
  split
  · exact Nat.lt_of_le_of_lt (Nat.sub_le _ _) h
  · exact h
def thn (m b : Nat) (st : Int32) : Nat := if st = 1 then m ||| 2 ^ b else clr m b
theorem thn_lt {m b : Nat} {st : Int32} (h : m < 256) (hb : b < 8) : thn m b st < 256 := by
  unfold thn
  split
  · exact or_lt (k := 8) h hb
  · exact clr_lt h
def c_were (s : CS) (g b st z : Int32) : Int32 := if (0 ≤ g ∧ g ≤ 3) ∧ (0 ≤ b ∧ b < nI s.1.n) ∧ (0 ≤ st ∧ st ≤ 2) then nI (chg (wT s.1 (wU s.1 g.toNatClampNeg)) (wT s.1 (thn (wU s.1 g.toNatClampNeg) b.toNatClampNeg st)) (thn (wU s.1 g.toNatClampNeg) b.toNatClampNeg st) z s.1.p) else -1
theorem k_were {G : SG} {d : Nat} {h : AH} {s : CS} {g bk st z : Int32} (hC : CA h s) (hI : wOk s.1) : SW G mX8_were (d + 8) 0 0 0 [.ref 0, .int g, .int bk, .int st, .int z, .retAddr 0, .retAddr 0] [] h (fun r h' => r = some (.int (c_were s g bk st z)) ∧ CA h' s ∧ SameC h h') := by
  obtain ⟨b, q, vb, K, nm, H⟩ := hC
  obtain ⟨hbq, h0, hW, hQ, hT, hL, hB⟩ := id H
  have hb : 9 ≤ b := by omega
  have hp := hI.1
  have hn := hW.2.2.2.2.1
  unfold c_were
  refine sw_iload_n dX8_were_0 rfl ?_
  refine sw_pcs1 dX8_were_1 cs_X8_112 (m_isGate) ?_
  refine sw_ifeq (tgt := 25) dX8_were_4 (by decide) (fun h1 => ?_) (fun h1 => ?_)
  · rw [if_neg (fun q => bz_eq0.mp h1 q.1)]
    refine sw_iconst (v := (-1)) dX8_were_25 (by decide) ?_
    exact sw_ireturn dX8_were_26 rfl rfl (⟨rfl, H.A, SameC.rf⟩)
  · have h1 := bz_eq1.mp h1
    refine sw_aload_n dX8_were_7 rfl ?_
    refine sw_getf dX8_were_8 fl_X8_28 (h0) rfl ?_
    refine sw_iload_n dX8_were_11 rfl ?_
    refine sw_pcv1 dX8_were_12 cv_X8_106 (rc_of hW.1 rfl) (m_isBackend hW) ?_
    refine sw_ifeq (tgt := 25) dX8_were_15 (by decide) (fun h2 => ?_) (fun h2 => ?_)
    · rw [if_neg (fun q => bz_eq0.mp h2 q.2.1)]
      refine sw_iconst (v := (-1)) dX8_were_25 (by decide) ?_
      exact sw_ireturn dX8_were_26 rfl rfl (⟨rfl, H.A, SameC.rf⟩)
    · have h2 := bz_eq1.mp h2
      refine sw_iload_n dX8_were_18 rfl ?_
      refine sw_pcs1 dX8_were_19 cs_X8_115 (m_isState) ?_
      refine sw_ifne (tgt := 27) dX8_were_22 (by decide) (fun h3 => ?_) (fun h3 => ?_)
      · have h3 := bz_eq1.mp h3
        rw [if_pos ⟨h1, h2, h3⟩]
        obtain ⟨gi, hgi, rfl⟩ := ga_of h1
        obtain ⟨j, hj, rfl⟩ := ba_of (by omega) h2
        rw [nI_clamp (by omega), nI_clamp (by omega)]
        obtain ⟨f, hf, hf4⟩ := hW.2.2.2.1
        have hG := hW.2.2.2.2.2 gi hgi
        have go : ∀ m2 : Nat, m2 < 256 → m2 = thn (wU s.1 gi) j st → SW G mX8_were (d + 8) 0 0 65 [.ref 0, .int (nI gi), .int (nI j), .int st, .int z, .int (nI (wU s.1 gi)), .int (nI m2)] [] h (fun r h' => r = some (.int (nI (chg (wT s.1 (wU s.1 gi)) (wT s.1 (thn (wU s.1 gi) j st)) (thn (wU s.1 gi) j st) z s.1.p))) ∧ CA h' s ∧ SameC h h') := by
          intro m2 hm2 hme
          obtain ⟨t4, h4⟩ := hB.2.1
          refine sw_aload_n dX8_were_65 rfl ?_
          refine sw_aload_n dX8_were_66 rfl ?_
          refine sw_getf dX8_were_67 fl_X8_19 (h0) rfl ?_
          refine sw_getf dX8_were_70 fl_X8_195 (hB.1) rfl ?_
          refine sw_iload dX8_were_73 rfl ?_
          refine sw_cv2 dX8_were_75 cv_X8_160 (rc_of h0 rfl) (k_makeTable (o := 4) (m := wU s.1 gi) (oOk4 hb) (wU_lt _ _) (by omega) (by omega) h0 hB hW h4) (fun r g1 hr => ?_)
          obtain ⟨rfl, hS, hB, t', e1, ht⟩ := hr
          have hW := hW.M hb (by omega) hS
          have h0 := (hS.2 0 (by omega) (by omega) (by omega) (by omega)).trans h0
          obtain ⟨t5, h5⟩ := hB.2.2.1
          refine sw_aload_n dX8_were_78 rfl ?_
          refine sw_aload_n dX8_were_79 rfl ?_
          refine sw_getf dX8_were_80 fl_X8_19 (h0) rfl ?_
          refine sw_getf dX8_were_83 fl_X8_219 (hB.1) rfl ?_
          refine sw_iload dX8_were_86 rfl ?_
          refine sw_cv2 dX8_were_88 cv_X8_160 (rc_of h0 rfl) (k_makeTable (o := 5) (m := m2) (oOk5 hb) hm2 (by omega) (by omega) h0 hB hW h5) (fun r g2 hr => ?_)
          obtain ⟨rfl, hS2, hB, t2, e2, ht2⟩ := hr
          have hW := hW.M hb (by omega) hS2
          have h0 := (hS2.2 0 (by omega) (by omega) (by omega) (by omega)).trans h0
          have e1 := (hS2.2 4 (by omega) (by omega) (by omega) (by omega)).trans e1
          obtain ⟨H1, HS⟩ := H.U hW hB ((hS.U (Or.inl (by omega))).tr (hS2.U (Or.inl (by omega))))
          refine sw_aload_n dX8_were_91 rfl ?_
          refine sw_aload_n dX8_were_92 rfl ?_
          refine sw_getf dX8_were_93 fl_X8_19 (h0) rfl ?_
          refine sw_getf dX8_were_96 fl_X8_195 (hB.1) rfl ?_
          refine sw_aload_n dX8_were_99 rfl ?_
          refine sw_getf dX8_were_100 fl_X8_19 (h0) rfl ?_
          refine sw_getf dX8_were_103 fl_X8_219 (hB.1) rfl ?_
          refine sw_iload dX8_were_106 rfl ?_
          refine sw_iload dX8_were_108 rfl ?_
          refine sw_pcv4 dX8_were_110 cv_X8_215 (rc_of h0 rfl) (k_changes (m := m2) (z := z) hm2 (by omega) h0 hW e1 e2 (fun _ => (tbl_rg8 hn).cg ht)) ?_
          exact sw_ireturn dX8_were_113 rfl rfl (⟨by rw [chg_congr _ ht ht2, hme], H1.A, HS⟩)
        refine sw_aload_n dX8_were_27 rfl ?_
        refine sw_getf dX8_were_28 fl_X8_28 (h0) rfl ?_
        refine sw_getf dX8_were_31 fl_X8_147 (hW.1) rfl ?_
        refine sw_iload_n dX8_were_34 rfl ?_
        refine sw_aald dX8_were_35 (hf) (vp_in_nI (by omega) (by omega)) (nIat (by omega) (hf4 gi hgi)) ?_
        refine sw_pcv0 dX8_were_36 cv_X8_156 (rc_of hG.1 rfl) (m_ups hG) ?_
        refine sw_istore dX8_were_39 (by decide) rfl ?_
        refine sw_iload_n dX8_were_41 rfl ?_
        refine sw_iconst (v := 1) dX8_were_42 (by decide) ?_
        refine sw_cmpne (tgt := 55) dX8_were_43 (by decide) (fun e1 => ?_) (fun e1 => ?_)
        · refine sw_iload dX8_were_55 rfl ?_
          refine sw_iconst (v := 1) dX8_were_57 (by decide) ?_
          refine sw_iload_n dX8_were_58 rfl ?_
          refine sw_ishl dX8_were_59 ?_
          refine sw_iconst (v := (-1)) dX8_were_60 (by decide) ?_
          refine sw_ixor dX8_were_61 ?_
          refine sw_iand dX8_were_62 ?_
          show SW G mX8_were (d + 8) 0 0 63 _ [.int (nI (wU s.1 gi) &&& ((1 : Int32) <<< (nI j &&& 31) ^^^ (-1)))] _ _
          rw [clr_bit _ (wU_lt _ _) j (by omega)]
          refine sw_istore dX8_were_63 (by decide) rfl ?_
          exact go _ (clr_lt (wU_lt _ _)) (by unfold thn; rw [if_neg e1])
        · refine sw_iload dX8_were_46 rfl ?_
          refine sw_iconst (v := 1) dX8_were_48 (by decide) ?_
          refine sw_iload_n dX8_were_49 rfl ?_
          refine sw_ishl dX8_were_50 ?_
          refine sw_ior dX8_were_51 ?_
          refine sw_goto (tgt := 63) dX8_were_52 (by decide) ?_
          show SW G mX8_were (d + 8) 0 0 63 _ [.int (nI (wU s.1 gi) ||| ((1 : Int32) <<< (nI j &&& 31)))] _ _
          rw [or_bit _ (wU_lt _ _) j (by omega)]
          refine sw_istore dX8_were_63 (by decide) rfl ?_
          exact go _ (or_lt (k := 8) (wU_lt _ _) (by omega)) (by unfold thn; rw [if_pos e1])
      · rw [if_neg (fun q => bz_eq0.mp h3 q.2.2)]
        refine sw_iconst (v := (-1)) dX8_were_25 (by decide) ?_
        exact sw_ireturn dX8_were_26 rfl rfl (⟨rfl, H.A, SameC.rf⟩)
def ndl (w : WS) (m b : Nat) : Nat := chg (wT w m) (wT w (clr m b)) (clr m b) 1 w.p
def rghF (w : WS) (m : Nat) : Nat → Int32 × Int32
  | 0 => (-1, -1)
  | b + 1 => if m.testBit b = true ∧ ¬ nI (ndl w m b) ≤ (rghF w m b).2 then (nI b, nI (ndl w m b)) else rghF w m b
def c_rough (s : CS) (g : Int32) : Int32 := if 0 ≤ g ∧ g ≤ 3 then (rghF s.1 (wU s.1 g.toNatClampNeg) s.1.n).1 else -1
theorem k_rough {G : SG} {d : Nat} {h : AH} {s : CS} {g : Int32} (hC : CA h s) (hI : wOk s.1) : SW G mX8_roughest (d + 8) 0 0 0 [.ref 0, .int g, .retAddr 0, .retAddr 0, .retAddr 0, .retAddr 0, .retAddr 0, .retAddr 0] [] h (fun r h' => r = some (.int (c_rough s g)) ∧ CA h' s ∧ SameC h h') := by
  obtain ⟨b, q, vb, K, nm, H⟩ := hC
  obtain ⟨hbq, h0, hW, hQ, hT, hL, hB⟩ := id H
  have hb : 9 ≤ b := by omega
  have hp := hI.1
  have hn := hW.2.2.2.2.1
  unfold c_rough
  refine sw_iload_n dX8_roughest_0 rfl ?_
  refine sw_pcs1 dX8_roughest_1 cs_X8_112 (m_isGate) ?_
  refine sw_ifne (tgt := 9) dX8_roughest_4 (by decide) (fun h1 => ?_) (fun h1 => ?_)
  · have h1 := bz_eq1.mp h1
    rw [if_pos h1]
    obtain ⟨gi, hgi, rfl⟩ := ga_of h1
    rw [nI_clamp (by omega)]
    have hm := wU_lt s.1 gi
    generalize hM : wU s.1 gi = m at hm
    have loop : ∀ (c i : Nat) (h1 : AH) (t4 : Nat → Int32) (v6 v7 : Value), i + c = s.1.n → SameU h h1 b → h1[0]? = some (.inr (6, [.ref 1, .ref 3, .ref b, .ref q, .ref 73])) → TabAt h1 → WorldAt h1 b s.1 → h1[4]? = some (.inl (0, 97, .inl t4)) → (∀ j, j < s.1.p → t4 j = wT s.1 m j) → SW G mX8_roughest (d + 8) 0 0 42 [.ref 0, .int (nI gi), .int (nI m), .int (rghF s.1 m i).1, .int (rghF s.1 m i).2, .int (nI i), v6, v7] [] h1 (fun r h' => r = some (.int (rghF s.1 m s.1.n).1) ∧ CA h' s ∧ SameC h h') := by
      intro c
      induction c with
      | zero =>
        intro i h1 t4 v6 v7 hi hU h0 hB hW e4 ht4
        have : i = s.1.n := by omega
        subst this
        obtain ⟨H1, HS⟩ := H.U hW hB hU
        refine sw_iload dX8_roughest_42 rfl ?_
        refine sw_aload_n dX8_roughest_44 rfl ?_
        refine sw_getf dX8_roughest_45 fl_X8_28 (h0) rfl ?_
        refine sw_getf dX8_roughest_48 fl_X8_99 (hW.1) rfl ?_
        refine sw_cmpge (tgt := 129) dX8_roughest_51 (by decide) (fun hc => ?_) (fun hc => ?_)
        · refine sw_iload_n dX8_roughest_129 rfl ?_
          exact sw_ireturn dX8_roughest_130 rfl rfl (⟨rfl, H1.A, HS⟩)
        · exact absurd (nI_le (Nat.le_refl _) (by omega)) hc
      | succ c ih =>
        intro i h1 t4 v6 v7 hi hU h0 hB hW e4 ht4
        have step : ∀ (h2 : AH) (v6 v7 : Value) (x : Int32 × Int32), rghF s.1 m (i + 1) = x → SameU h h2 b → h2[0]? = some (.inr (6, [.ref 1, .ref 3, .ref b, .ref q, .ref 73])) → TabAt h2 → WorldAt h2 b s.1 → h2[4]? = some (.inl (0, 97, .inl t4)) → SW G mX8_roughest (d + 8) 0 0 123 [.ref 0, .int (nI gi), .int (nI m), .int x.1, .int x.2, .int (nI i), v6, v7] [] h2 (fun r h' => r = some (.int (rghF s.1 m s.1.n).1) ∧ CA h' s ∧ SameC h h') := by
          intro h2 v6 v7 x hx hU h0 hB hW e4
          subst hx
          refine sw_iinc (v := nI (i + 1)) dX8_roughest_123 rfl (nI_1 i) (by decide) rfl ?_
          refine sw_goto (tgt := 42) dX8_roughest_126 (by decide) ?_
          exact ih (i + 1) h2 t4 v6 v7 (by omega) hU h0 hB hW e4 ht4
        refine sw_iload dX8_roughest_42 rfl ?_
        refine sw_aload_n dX8_roughest_44 rfl ?_
        refine sw_getf dX8_roughest_45 fl_X8_28 (h0) rfl ?_
        refine sw_getf dX8_roughest_48 fl_X8_99 (hW.1) rfl ?_
        refine sw_cmpge (tgt := 129) dX8_roughest_51 (by decide) (fun hc => ?_) (fun hc => ?_)
        · exact absurd hc (nI_ge (by omega) (by omega))
        · refine sw_iload_n dX8_roughest_54 rfl ?_
          refine sw_iload dX8_roughest_55 rfl ?_
          refine sw_pcs2 dX8_roughest_57 cs_X8_222 (m_isAmong (m := m) (b := i) hm (by omega)) ?_
          refine sw_ifeq (tgt := 123) dX8_roughest_60 (by decide) (fun hbit => ?_) (fun hbit => ?_)
          · exact step h1 v6 v7 _ (by rw [rghF, if_neg (fun x => bz_eq0.mp hbit x.1)]) hU h0 hB hW e4
          · have hbit := bz_eq1.mp hbit
            refine sw_iload_n dX8_roughest_63 rfl ?_
            refine sw_iconst (v := 1) dX8_roughest_64 (by decide) ?_
            refine sw_iload dX8_roughest_65 rfl ?_
            refine sw_ishl dX8_roughest_67 ?_
            refine sw_iconst (v := (-1)) dX8_roughest_68 (by decide) ?_
            refine sw_ixor dX8_roughest_69 ?_
            refine sw_iand dX8_roughest_70 ?_
            show SW G mX8_roughest (d + 8) 0 0 71 _ [.int (nI m &&& ((1 : Int32) <<< (nI i &&& 31) ^^^ (-1)))] _ _
            rw [clr_bit _ hm i (by omega)]
            obtain ⟨t5, h5⟩ := hB.2.2.1
            refine sw_istore dX8_roughest_71 (by decide) rfl ?_
            refine sw_aload_n dX8_roughest_73 rfl ?_
            refine sw_aload_n dX8_roughest_74 rfl ?_
            refine sw_getf dX8_roughest_75 fl_X8_19 (h0) rfl ?_
            refine sw_getf dX8_roughest_78 fl_X8_219 (hB.1) rfl ?_
            refine sw_iload dX8_roughest_81 rfl ?_
            refine sw_cv2 dX8_roughest_83 cv_X8_160 (rc_of h0 rfl) (k_makeTable (o := 5) (m := clr m i) (oOk5 hb) (clr_lt hm) (by omega) (by omega) h0 hB hW h5) (fun r g2 hr => ?_)
            obtain ⟨rfl, hS2, hB, t2, e2, ht2⟩ := hr
            have hW := hW.M hb (by omega) hS2
            have h0 := (hS2.2 0 (by omega) (by omega) (by omega) (by omega)).trans h0
            have e4 := (hS2.2 4 (by omega) (by omega) (by omega) (by omega)).trans e4
            have hU := hU.tr (hS2.U (Or.inl (by omega)))
            refine sw_aload_n dX8_roughest_86 rfl ?_
            refine sw_aload_n dX8_roughest_87 rfl ?_
            refine sw_getf dX8_roughest_88 fl_X8_19 (h0) rfl ?_
            refine sw_getf dX8_roughest_91 fl_X8_195 (hB.1) rfl ?_
            refine sw_aload_n dX8_roughest_94 rfl ?_
            refine sw_getf dX8_roughest_95 fl_X8_19 (h0) rfl ?_
            refine sw_getf dX8_roughest_98 fl_X8_219 (hB.1) rfl ?_
            refine sw_iload dX8_roughest_101 rfl ?_
            refine sw_iconst (v := 1) dX8_roughest_103 (by decide) ?_
            refine sw_pcv4 dX8_roughest_104 cv_X8_215 (rc_of h0 rfl) (k_changes (m := clr m i) (z := 1) (clr_lt hm) (by omega) h0 hW e4 e2 (fun _ => (tbl_rg8 hn).cg ht4)) ?_
            rw [show chg t4 t2 (clr m i) 1 s.1.p = ndl s.1 m i from chg_congr _ ht4 ht2]
            refine sw_istore dX8_roughest_107 (by decide) rfl ?_
            refine sw_iload dX8_roughest_109 rfl ?_
            refine sw_iload dX8_roughest_111 rfl ?_
            refine sw_cmple (tgt := 123) dX8_roughest_113 (by decide) (fun hgr => ?_) (fun hgr => ?_)
            · exact step g2 _ _ _ (by rw [rghF, if_neg (fun x => x.2 hgr)]) hU h0 hB hW e4
            · refine sw_iload dX8_roughest_116 rfl ?_
              refine sw_istore dX8_roughest_118 (by decide) rfl ?_
              refine sw_iload dX8_roughest_120 rfl ?_
              refine sw_istore_n dX8_roughest_122 (by decide) rfl ?_
              exact step g2 _ _ (nI i, nI (ndl s.1 m i)) (by rw [rghF, if_pos ⟨hbit, hgr⟩]) hU h0 hB hW e4
    obtain ⟨f, hf, hf4⟩ := hW.2.2.2.1
    have hG := hW.2.2.2.2.2 gi hgi
    obtain ⟨t4, h4⟩ := hB.2.1
    have hM : upsN (s.1.gs gi).1 8 = m := hM
    refine sw_aload_n dX8_roughest_9 rfl ?_
    refine sw_getf dX8_roughest_10 fl_X8_28 (h0) rfl ?_
    refine sw_getf dX8_roughest_13 fl_X8_147 (hW.1) rfl ?_
    refine sw_iload_n dX8_roughest_16 rfl ?_
    refine sw_aald dX8_roughest_17 (hf) (vp_in_nI (by omega) (by omega)) (nIat (by omega) (hf4 gi hgi)) ?_
    refine sw_pcv0 dX8_roughest_18 cv_X8_156 (rc_of hG.1 rfl) (m_ups hG) ?_
    rw [hM]
    refine sw_istore_n dX8_roughest_21 (by decide) rfl ?_
    refine sw_iconst (v := (-1)) dX8_roughest_22 (by decide) ?_
    refine sw_istore_n dX8_roughest_23 (by decide) rfl ?_
    refine sw_iconst (v := (-1)) dX8_roughest_24 (by decide) ?_
    refine sw_istore dX8_roughest_25 (by decide) rfl ?_
    refine sw_aload_n dX8_roughest_27 rfl ?_
    refine sw_aload_n dX8_roughest_28 rfl ?_
    refine sw_getf dX8_roughest_29 fl_X8_19 (h0) rfl ?_
    refine sw_getf dX8_roughest_32 fl_X8_195 (hB.1) rfl ?_
    refine sw_iload_n dX8_roughest_35 rfl ?_
    refine sw_cv2 dX8_roughest_36 cv_X8_160 (rc_of h0 rfl) (k_makeTable (o := 4) (m := m) (oOk4 hb) hm (by omega) (by omega) h0 hB hW h4) (fun r g1 hr => ?_)
    obtain ⟨rfl, hS, hB, t', e1, ht⟩ := hr
    have hW := hW.M hb (by omega) hS
    have h0 := (hS.2 0 (by omega) (by omega) (by omega) (by omega)).trans h0
    refine sw_iconst (v := 0) dX8_roughest_39 (by decide) ?_
    refine sw_istore dX8_roughest_40 (by decide) rfl ?_
    exact loop s.1.n 0 g1 t' _ _ (by omega) (hS.U (Or.inl (by omega))) h0 hB hW e1 ht
  · rw [if_neg (bz_eq0.mp h1)]
    refine sw_iconst (v := (-1)) dX8_roughest_7 (by decide) ?_
    exact sw_ireturn dX8_roughest_8 rfl rfl (⟨rfl, H.A, SameC.rf⟩)
