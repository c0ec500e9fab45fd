theorem nI_not0 {x : Int32} (h : 0 ≤ x) : ¬ x < 0 := by
  rw [Int32.le_iff_toInt_le] at h
  rw [Int32.lt_iff_toInt_lt]
  omega
theorem ga_of {g : Int32} (h : 0 ≤ g ∧ g ≤ 3) : ∃ gi, gi < 4 ∧ g = nI gi := by
  obtain ⟨j, hj, e⟩ := nI_of2 (M := 3) (n := 3) rfl (nI_not0 h.1) h.2
  exact ⟨j, by omega, e⟩
theorem ba_of {g : Int32} {n : Nat} (hn : n < 2 ^ 31) (h : 0 ≤ g ∧ g < nI n) : ∃ gi, gi < n ∧ g = nI gi := by
  obtain ⟨j, hj, e⟩ := nI_of (nI_not0 h.1)
  rw [e, nI_ltI hj hn] at h
  exact ⟨j, h.2, e⟩
def c_weigh (s : CS) (b v : Int32) : Int32 × CS := if (0 ≤ b ∧ b < nI s.1.n) ∧ (1 ≤ v ∧ v ≤ 9) ∧ ¬ s.1.wt b.toNatClampNeg = v then (1, (wgtW s.1 b.toNatClampNeg v, s.2)) else (0, s)
theorem k_weigh {G : SG} {d : Nat} {h : AH} {s : CS} {bk v : Int32} (hC : CA h s) : SW G mX8_weigh (d + 8) 0 0 0 [.ref 0, .int bk, .int v] [] h (fun r h' => r = some (.int (c_weigh s bk v).1) ∧ CA h' (c_weigh s bk v).2 ∧ SameC h h') := by
  obtain ⟨b, q, vb, K, nm, H⟩ := hC
  obtain ⟨hbq, h0, hW, hQ, hT, hL, hB⟩ := id H
  have hn := hW.2.2.2.2.1
  unfold c_weigh
  refine sw_aload_n dX8_weigh_0 rfl ?_
  refine sw_getf dX8_weigh_1 fl_X8_28 (h0) rfl ?_
  refine sw_iload_n dX8_weigh_4 rfl ?_
  refine sw_pcv1 dX8_weigh_5 cv_X8_106 (rc_of hW.1 rfl) (m_isBackend hW) ?_
  refine sw_ifeq (tgt := 34) dX8_weigh_8 (by decide) (fun h1 => ?_) (fun h1 => ?_)
  · rw [if_neg (fun q => bz_eq0.mp h1 q.1)]
    refine sw_iconst (v := 0) dX8_weigh_34 (by decide) ?_
    exact sw_ireturn dX8_weigh_35 rfl rfl (⟨rfl, H.A, SameC.rf⟩)
  · have h1 := bz_eq1.mp h1
    refine sw_iload_n dX8_weigh_11 rfl ?_
    refine sw_iconst (v := 1) dX8_weigh_12 (by decide) ?_
    refine sw_bipush (v := 9) dX8_weigh_13 (by decide) ?_
    refine sw_pcs3 dX8_weigh_15 cs_X8_92 (m_isWithin) ?_
    refine sw_ifeq (tgt := 34) dX8_weigh_18 (by decide) (fun h2 => ?_) (fun h2 => ?_)
    · rw [if_neg (fun q => bz_eq0.mp h2 q.2.1)]
      refine sw_iconst (v := 0) dX8_weigh_34 (by decide) ?_
      exact sw_ireturn dX8_weigh_35 rfl rfl (⟨rfl, H.A, SameC.rf⟩)
    · have h2 := bz_eq1.mp h2
      obtain ⟨j, hj, rfl⟩ := ba_of (by omega) h1
      refine sw_aload_n dX8_weigh_21 rfl ?_
      refine sw_getf dX8_weigh_22 fl_X8_28 (h0) rfl ?_
      refine sw_getf dX8_weigh_25 fl_X8_109 (hW.1) rfl ?_
      refine sw_iload_n dX8_weigh_28 rfl ?_
      refine sw_iald dX8_weigh_29 (hW.2.2.1) (vp_in_nI (by omega) (by omega)) (rfl) ?_
      refine sw_iload_n dX8_weigh_30 rfl ?_
      refine sw_cmpne (tgt := 36) dX8_weigh_31 (by decide) (fun h3 => ?_) (fun h3 => ?_)
      · rw [if_pos ⟨h1, h2, h3⟩]
        refine sw_aload_n dX8_weigh_36 rfl ?_
        refine sw_getf dX8_weigh_37 fl_X8_28 (h0) rfl ?_
        refine sw_getf dX8_weigh_40 fl_X8_109 (hW.1) rfl ?_
        refine sw_iload_n dX8_weigh_43 rfl ?_
        refine sw_iload_n dX8_weigh_44 rfl ?_
        refine sw_iast dX8_weigh_45 (hW.2.2.1) (vp_in_nI (by omega) (by omega)) (fun g1 z1 e1 o1 => ?_)
        have hW1 : WorldAt g1 b (wgtW s.1 (nI j).toNatClampNeg v) := by
          obtain ⟨a, c', d', ⟨f, e, e2⟩, n', g'⟩ := hW
          exact ⟨(o1 _ (by omega)).trans a, (o1 _ (by omega)).trans c', e1, ⟨f, (o1 _ (by omega)).trans e, e2⟩, n', fun i hi => (g' i hi).kept (fun j x y => o1 j (by omega))⟩
        obtain ⟨H1, HS⟩ := H.W hW1 ⟨z1, fun j hj => o1 j (by omega)⟩
        refine sw_iconst (v := 1) dX8_weigh_46 (by decide) ?_
        exact sw_ireturn dX8_weigh_47 rfl rfl (⟨rfl, H1, HS⟩)
      · rw [if_neg (fun q => q.2.2 h3)]
        refine sw_iconst (v := 0) dX8_weigh_34 (by decide) ?_
        exact sw_ireturn dX8_weigh_35 rfl rfl (⟨rfl, H.A, SameC.rf⟩)
def c_see (s : CS) (g b v : Int32) : Int32 × CS := if (g = -1 ∨ (0 ≤ g ∧ g ≤ 3)) ∧ (0 ≤ b ∧ b < nI s.1.n) ∧ (0 ≤ v ∧ v ≤ 2) then (nI (shwC g b.toNatClampNeg v s.1.gs 4), (s.1.sg (mapG (shwF g b.toNatClampNeg v) 4 s.1.gs), s.2)) else (-1, s)
theorem k_see {G : SG} {d : Nat} {h : AH} {s : CS} {g bk v : Int32} (hC : CA h s) : SW G mX8_see (d + 8) 0 0 0 [.ref 0, .int g, .int bk, .int v] [] h (fun r h' => r = some (.int (c_see s g bk v).1) ∧ CA h' (c_see s g bk v).2 ∧ SameC h h') := by
  obtain ⟨b, q, vb, K, nm, H⟩ := hC
  obtain ⟨hbq, h0, hW, hQ, hT, hL, hB⟩ := id H
  have hn := hW.2.2.2.2.1
  have no : ¬ ((g = -1 ∨ (0 ≤ g ∧ g ≤ 3)) ∧ (0 ≤ bk ∧ bk < nI s.1.n) ∧ (0 ≤ v ∧ v ≤ 2)) → SW G mX8_see (d + 8) 0 0 30 [.ref 0, .int g, .int bk, .int v] [] h (fun r h' => r = some (.int (c_see s g bk v).1) ∧ CA h' (c_see s g bk v).2 ∧ SameC h h') := by
    intro hno
    have hf : c_see s g bk v = (-1, s) := if_neg hno
    rw [hf]
    refine sw_iconst (v := (-1)) dX8_see_30 (by decide) ?_
    exact sw_ireturn dX8_see_31 rfl rfl (⟨rfl, H.A, SameC.rf⟩)
  have go : (g = -1 ∨ (0 ≤ g ∧ g ≤ 3)) → SW G mX8_see (d + 8) 0 0 12 [.ref 0, .int g, .int bk, .int v] [] h (fun r h' => r = some (.int (c_see s g bk v).1) ∧ CA h' (c_see s g bk v).2 ∧ SameC h h') := by
    intro h1
    refine sw_aload_n dX8_see_12 rfl ?_
    refine sw_getf dX8_see_13 fl_X8_28 (h0) rfl ?_
    refine sw_iload_n dX8_see_16 rfl ?_
    refine sw_pcv1 dX8_see_17 cv_X8_106 (rc_of hW.1 rfl) (m_isBackend hW) ?_
    refine sw_ifeq (tgt := 30) dX8_see_20 (by decide) (fun h2 => ?_) (fun h2 => ?_)
    · exact no (fun q => bz_eq0.mp h2 q.2.1)
    · have h2 := bz_eq1.mp h2
      refine sw_iload_n dX8_see_23 rfl ?_
      refine sw_pcs1 dX8_see_24 cs_X8_115 (m_isState) ?_
      refine sw_ifne (tgt := 32) dX8_see_27 (by decide) (fun h3 => ?_) (fun h3 => ?_)
      · have h3 := bz_eq1.mp h3
        have hf : c_see s g bk v = (nI (shwC g bk.toNatClampNeg v s.1.gs 4), (s.1.sg (mapG (shwF g bk.toNatClampNeg v) 4 s.1.gs), s.2)) := if_pos ⟨h1, h2, h3⟩
        rw [hf]
        obtain ⟨j, hj, rfl⟩ := ba_of (by omega) h2
        rw [nI_clamp (by omega)]
        refine sw_aload_n dX8_see_32 rfl ?_
        refine sw_getf dX8_see_33 fl_X8_28 (h0) rfl ?_
        refine sw_iload_n dX8_see_36 rfl ?_
        refine sw_iload_n dX8_see_37 rfl ?_
        refine sw_iload_n dX8_see_38 rfl ?_
        refine sw_cv3 dX8_see_39 cv_X8_118 (rc_of hW.1 rfl) (m_show (bk := j) hW (by omega)) (fun r g1 hr => ?_)
        obtain ⟨rfl, hW1, hS1⟩ := hr
        obtain ⟨H1, HS⟩ := H.W hW1 hS1
        exact sw_ireturn dX8_see_42 rfl rfl (⟨rfl, H1, HS⟩)
      · exact no (fun q => bz_eq0.mp h3 q.2.2)
  refine sw_iload_n dX8_see_0 rfl ?_
  refine sw_iconst (v := (-1)) dX8_see_1 (by decide) ?_
  refine sw_cmpeq (tgt := 12) dX8_see_2 (by decide) (fun h1 => ?_) (fun h1 => ?_)
  · exact go (Or.inl h1)
  · refine sw_iload_n dX8_see_5 rfl ?_
    refine sw_pcs1 dX8_see_6 cs_X8_112 (m_isGate) ?_
    refine sw_ifeq (tgt := 30) dX8_see_9 (by decide) (fun h2 => ?_) (fun h2 => ?_)
    · exact no (fun q => q.1.elim h1 (bz_eq0.mp h2))
    · exact go (Or.inr (bz_eq1.mp h2))
def c_set (s : CS) (a v : Int32) : Int32 × CS := if a = 0 ∧ (1 ≤ v ∧ v ≤ 16) ∧ ¬ v = s.1.rm then (1, (rmW s.1 v, s.2)) else if a = 1 ∧ (0 ≤ v ∧ v ≤ 99) ∧ ¬ v = s.1.ag then (1, (agW s.1 v, s.2)) else (0, s)
theorem k_set {G : SG} {d : Nat} {h : AH} {s : CS} {a v : Int32} (hC : CA h s) : SW G mX8_set (d + 8) 0 0 0 [.ref 0, .int a, .int v] [] h (fun r h' => r = some (.int (c_set s a v).1) ∧ CA h' (c_set s a v).2 ∧ SameC h h') := by
  obtain ⟨b, q, vb, K, nm, H⟩ := hC
  obtain ⟨hbq, h0, hW, hQ, hT, hL, hB⟩ := id H
  have two : ¬ (a = 0 ∧ (1 ≤ v ∧ v ≤ 16) ∧ ¬ v = s.1.rm) → SW G mX8_set (d + 8) 0 0 35 [.ref 0, .int a, .int v] [] h (fun r h' => r = some (.int (c_set s a v).1) ∧ CA h' (c_set s a v).2 ∧ SameC h h') := by
    intro hno
    have no : ¬ (a = 1 ∧ (0 ≤ v ∧ v ≤ 99) ∧ ¬ v = s.1.ag) → SW G mX8_set (d + 8) 0 0 71 [.ref 0, .int a, .int v] [] h (fun r h' => r = some (.int (c_set s a v).1) ∧ CA h' (c_set s a v).2 ∧ SameC h h') := by
      intro hn2
      have hf : c_set s a v = (0, s) := by unfold c_set; rw [if_neg hno, if_neg hn2]
      rw [hf]
      refine sw_iconst (v := 0) dX8_set_71 (by decide) ?_
      exact sw_ireturn dX8_set_72 rfl rfl (⟨rfl, H.A, SameC.rf⟩)
    refine sw_iload_n dX8_set_35 rfl ?_
    refine sw_iconst (v := 1) dX8_set_36 (by decide) ?_
    refine sw_cmpne (tgt := 71) dX8_set_37 (by decide) (fun h1 => ?_) (fun h1 => ?_)
    · exact no (fun q => h1 q.1)
    · refine sw_iload_n dX8_set_40 rfl ?_
      refine sw_iconst (v := 0) dX8_set_41 (by decide) ?_
      refine sw_bipush (v := 99) dX8_set_42 (by decide) ?_
      refine sw_pcs3 dX8_set_44 cs_X8_92 (m_isWithin) ?_
      refine sw_ifeq (tgt := 71) dX8_set_47 (by decide) (fun h2 => ?_) (fun h2 => ?_)
      · exact no (fun q => bz_eq0.mp h2 q.2.1)
      · have h2 := bz_eq1.mp h2
        refine sw_iload_n dX8_set_50 rfl ?_
        refine sw_aload_n dX8_set_51 rfl ?_
        refine sw_getf dX8_set_52 fl_X8_28 (h0) rfl ?_
        refine sw_getf dX8_set_55 fl_X8_128 (hW.1) rfl ?_
        refine sw_cmpeq (tgt := 71) dX8_set_58 (by decide) (fun h3 => ?_) (fun h3 => ?_)
        · exact no (fun q => q.2.2 h3)
        · have hf : c_set s a v = (1, (agW s.1 v, s.2)) := by unfold c_set; rw [if_neg hno, if_pos ⟨h1, h2, h3⟩]
          rw [hf]
          refine sw_aload_n dX8_set_61 rfl ?_
          refine sw_getf dX8_set_62 fl_X8_28 (h0) rfl ?_
          refine sw_iload_n dX8_set_65 rfl ?_
          refine sw_cv1 dX8_set_66 cv_X8_131 (rc_of hW.1 rfl) (m_changeAge hW) (fun r g1 hr => ?_)
          obtain ⟨rfl, hW1, hS1⟩ := hr
          obtain ⟨H1, HS⟩ := H.W hW1 hS1
          refine sw_iconst (v := 1) dX8_set_69 (by decide) ?_
          exact sw_ireturn dX8_set_70 rfl rfl (⟨rfl, H1, HS⟩)
  refine sw_iload_n dX8_set_0 rfl ?_
  refine sw_ifne (tgt := 35) dX8_set_1 (by decide) (fun h1 => ?_) (fun h1 => ?_)
  · exact two (fun q => h1 q.1)
  · refine sw_iload_n dX8_set_4 rfl ?_
    refine sw_iconst (v := 1) dX8_set_5 (by decide) ?_
    refine sw_bipush (v := 16) dX8_set_6 (by decide) ?_
    refine sw_pcs3 dX8_set_8 cs_X8_92 (m_isWithin) ?_
    refine sw_ifeq (tgt := 35) dX8_set_11 (by decide) (fun h2 => ?_) (fun h2 => ?_)
    · exact two (fun q => bz_eq0.mp h2 q.2.1)
    · have h2 := bz_eq1.mp h2
      refine sw_iload_n dX8_set_14 rfl ?_
      refine sw_aload_n dX8_set_15 rfl ?_
      refine sw_getf dX8_set_16 fl_X8_28 (h0) rfl ?_
      refine sw_getf dX8_set_19 fl_X8_122 (hW.1) rfl ?_
      refine sw_cmpeq (tgt := 35) dX8_set_22 (by decide) (fun h3 => ?_) (fun h3 => ?_)
      · exact two (fun q => q.2.2 h3)
      · have hf : c_set s a v = (1, (rmW s.1 v, s.2)) := if_pos ⟨h1, h2, h3⟩
        rw [hf]
        have hv : ¬ v < 0 := by
          have := h2.1
          rw [Int32.le_iff_toInt_le] at this
          rw [Int32.lt_iff_toInt_lt]
          have e1 : (1 : Int32).toInt = 1 := rfl
          have e0 : (0 : Int32).toInt = 0 := rfl
          omega
        refine sw_aload_n dX8_set_25 rfl ?_
        refine sw_getf dX8_set_26 fl_X8_28 (h0) rfl ?_
        refine sw_iload_n dX8_set_29 rfl ?_
        refine sw_cv1 dX8_set_30 cv_X8_125 (rc_of hW.1 rfl) (m_changeRoom hW hv) (fun r g1 hr => ?_)
        obtain ⟨rfl, hW1, hS1⟩ := hr
        obtain ⟨H1, HS⟩ := H.W hW1 hS1
        refine sw_iconst (v := 1) dX8_set_33 (by decide) ?_
        exact sw_ireturn dX8_set_34 rfl rfl (⟨rfl, H1, HS⟩)
def c_tick (s : CS) (v : Int32) : Int32 × CS := if 1 ≤ v ∧ v ≤ 999 then (s.1.ck + v, (tckW s.1 v, s.2)) else (-1, s)
theorem k_tick {G : SG} {d : Nat} {h : AH} {s : CS} {v : Int32} (hC : CA h s) : SW G mX8_tick (d + 8) 0 0 0 [.ref 0, .int v] [] h (fun r h' => r = some (.int (c_tick s v).1) ∧ CA h' (c_tick s v).2 ∧ SameC h h') := by
  obtain ⟨b, q, vb, K, nm, H⟩ := hC
  obtain ⟨hbq, h0, hW, hQ, hT, hL, hB⟩ := id H
  unfold c_tick
  refine sw_iload_n dX8_tick_0 rfl ?_
  refine sw_iconst (v := 1) dX8_tick_1 (by decide) ?_
  refine sw_sipush (v := 999) dX8_tick_2 (by decide) ?_
  refine sw_pcs3 dX8_tick_5 cs_X8_92 (m_isWithin) ?_
  refine sw_ifne (tgt := 13) dX8_tick_8 (by decide) (fun h1 => ?_) (fun h1 => ?_)
  · rw [if_pos (bz_eq1.mp h1)]
    refine sw_aload_n dX8_tick_13 rfl ?_
    refine sw_getf dX8_tick_14 fl_X8_28 (h0) rfl ?_
    refine sw_iload_n dX8_tick_17 rfl ?_
    refine sw_cv1 dX8_tick_18 cv_X8_134 (rc_of hW.1 rfl) (m_passTicks hW) (fun r g1 hr => ?_)
    obtain ⟨rfl, hW1, hS1⟩ := hr
    obtain ⟨H1, HS⟩ := H.W hW1 hS1
    have h0 := (hS1.2 0 (by omega)).trans h0
    have hW := hW1
    refine sw_aload_n dX8_tick_21 rfl ?_
    refine sw_getf dX8_tick_22 fl_X8_28 (h0) rfl ?_
    refine sw_getf dX8_tick_25 fl_X8_137 (hW.1) rfl ?_
    exact sw_ireturn dX8_tick_28 rfl rfl (⟨rfl, H1, HS⟩)
  · rw [if_neg (bz_eq0.mp h1)]
    refine sw_iconst (v := (-1)) dX8_tick_11 (by decide) ?_
    exact sw_ireturn dX8_tick_12 rfl rfl (⟨rfl, H.A, SameC.rf⟩)
def c_pack (s : CS) (g f : Int32) : Int32 × CS := if (0 ≤ g ∧ g ≤ 3) ∧ (0 ≤ f ∧ f ≤ 9999) then (sndG s.1 g.toNatClampNeg f, (sndW s.1 g.toNatClampNeg f, s.2)) else (-2, s)
theorem k_pack {G : SG} {d : Nat} {h : AH} {s : CS} {g f : Int32} (hC : CA h s) (hI : wOk s.1) : SW G mX8_pack (d + 8) 0 0 0 [.ref 0, .int g, .int f] [] h (fun r h' => r = some (.int (c_pack s g f).1) ∧ CA h' (c_pack s g f).2 ∧ SameC h h') := by
  obtain ⟨b, q, vb, K, nm, H⟩ := hC
  obtain ⟨hbq, h0, hW, hQ, hT, hL, hB⟩ := id H
  unfold c_pack
  refine sw_iload_n dX8_pack_0 rfl ?_
  refine sw_pcs1 dX8_pack_1 cs_X8_112 (m_isGate) ?_
  refine sw_ifeq (tgt := 14) dX8_pack_4 (by decide) (fun h1 => ?_) (fun h1 => ?_)
  · rw [if_neg (fun q => bz_eq0.mp h1 q.1)]
    refine sw_bipush (v := (-2)) dX8_pack_14 (by decide) ?_
    exact sw_ireturn dX8_pack_16 rfl rfl (⟨rfl, H.A, SameC.rf⟩)
  · have h1 := bz_eq1.mp h1
    refine sw_iload_n dX8_pack_7 rfl ?_
    refine sw_pcs1 dX8_pack_8 cs_X8_140 (m_isFlow) ?_
    refine sw_ifne (tgt := 17) dX8_pack_11 (by decide) (fun h2 => ?_) (fun h2 => ?_)
    · have h2 := bz_eq1.mp h2
      rw [if_pos ⟨h1, h2⟩]
      obtain ⟨gi, hgi, rfl⟩ := ga_of h1
      rw [nI_clamp (by omega)]
      refine sw_aload_n dX8_pack_17 rfl ?_
      refine sw_getf dX8_pack_18 fl_X8_28 (h0) rfl ?_
      refine sw_iload_n dX8_pack_21 rfl ?_
      refine sw_iload_n dX8_pack_22 rfl ?_
      refine sw_cv2 dX8_pack_23 cv_X8_143 (rc_of hW.1 rfl) (m_send hW hB (by omega) hgi hI) (fun r g1 hr => ?_)
      obtain ⟨rfl, hW1, hB1, hS1⟩ := hr
      obtain ⟨H1, HS⟩ := H.U hW1 hB1 hS1.U
      exact sw_ireturn dX8_pack_26 rfl rfl (⟨rfl, H1.A, HS⟩)
    · rw [if_neg (fun q => bz_eq0.mp h2 q.2)]
      refine sw_bipush (v := (-2)) dX8_pack_14 (by decide) ?_
      exact sw_ireturn dX8_pack_16 rfl rfl (⟨rfl, H.A, SameC.rf⟩)
def c_count (s : CS) (x : Int32) : Int32 := if x = 0 then nI s.1.p else if x = 1 then nI s.1.n else if x = 2 then s.1.ck else if x = 3 then s.1.rm else if x = 4 then s.1.ag else if x = 5 then nI s.2.2.1 else -1
theorem k_count {G : SG} {d : Nat} {h : AH} {s : CS} {x : Int32} (hC : CA h s) : SW G mX8_count (d + 8) 0 0 0 [.ref 0, .int x] [] h (fun r h' => r = some (.int (c_count s x)) ∧ h' = h) := by
  obtain ⟨b, q, vb, K, nm, H⟩ := hC
  obtain ⟨hbq, h0, hW, hQ, hT, hL, hB⟩ := id H
  refine sw_iload_n dX8_count_0 rfl ?_
  by_cases e0 : x = 0
  · subst e0
    refine sw_tsIn (tgt := 40) dX8_count_1 (by decide) (by decide) (by rfl) (by decide) ?_
    refine sw_aload_n dX8_count_40 rfl ?_
    refine sw_getf dX8_count_41 fl_X8_28 (h0) rfl ?_
    refine sw_getf dX8_count_44 fl_X8_82 (hW.1) rfl ?_
    exact sw_ireturn dX8_count_47 rfl rfl (⟨rfl, rfl⟩)
  by_cases e1 : x = 1
  · subst e1
    refine sw_tsIn (tgt := 48) dX8_count_1 (by decide) (by decide) (by rfl) (by decide) ?_
    refine sw_aload_n dX8_count_48 rfl ?_
    refine sw_getf dX8_count_49 fl_X8_28 (h0) rfl ?_
    refine sw_getf dX8_count_52 fl_X8_99 (hW.1) rfl ?_
    exact sw_ireturn dX8_count_55 rfl rfl (⟨rfl, rfl⟩)
  by_cases e2 : x = 2
  · subst e2
    refine sw_tsIn (tgt := 56) dX8_count_1 (by decide) (by decide) (by rfl) (by decide) ?_
    refine sw_aload_n dX8_count_56 rfl ?_
    refine sw_getf dX8_count_57 fl_X8_28 (h0) rfl ?_
    refine sw_getf dX8_count_60 fl_X8_137 (hW.1) rfl ?_
    exact sw_ireturn dX8_count_63 rfl rfl (⟨rfl, rfl⟩)
  by_cases e3 : x = 3
  · subst e3
    refine sw_tsIn (tgt := 64) dX8_count_1 (by decide) (by decide) (by rfl) (by decide) ?_
    refine sw_aload_n dX8_count_64 rfl ?_
    refine sw_getf dX8_count_65 fl_X8_28 (h0) rfl ?_
    refine sw_getf dX8_count_68 fl_X8_122 (hW.1) rfl ?_
    exact sw_ireturn dX8_count_71 rfl rfl (⟨rfl, rfl⟩)
  by_cases e4 : x = 4
  · subst e4
    refine sw_tsIn (tgt := 72) dX8_count_1 (by decide) (by decide) (by rfl) (by decide) ?_
    refine sw_aload_n dX8_count_72 rfl ?_
    refine sw_getf dX8_count_73 fl_X8_28 (h0) rfl ?_
    refine sw_getf dX8_count_76 fl_X8_128 (hW.1) rfl ?_
    exact sw_ireturn dX8_count_79 rfl rfl (⟨rfl, rfl⟩)
  by_cases e5 : x = 5
  · subst e5
    refine sw_tsIn (tgt := 80) dX8_count_1 (by decide) (by decide) (by rfl) (by decide) ?_
    refine sw_aload_n dX8_count_80 rfl ?_
    refine sw_getf dX8_count_81 fl_X8_10 (h0) rfl ?_
    refine sw_getf dX8_count_84 fl_X8_44 (hT.1) rfl ?_
    exact sw_ireturn dX8_count_87 rfl rfl (⟨rfl, rfl⟩)
  have hx : x.toInt < 0 ∨ 5 < x.toInt := by
    rw [← Int32.toInt_inj] at e0 e1 e2 e3 e4 e5
    have a0 : (0 : Int32).toInt = 0 := rfl
    have a1 : (1 : Int32).toInt = 1 := rfl
    have a2 : (2 : Int32).toInt = 2 := rfl
    have a3 : (3 : Int32).toInt = 3 := rfl
    have a4 : (4 : Int32).toInt = 4 := rfl
    have a5 : (5 : Int32).toInt = 5 := rfl
    omega
  refine sw_tsOut (tgt := 88) dX8_count_1 hx (by decide) ?_
  refine sw_iconst (v := (-1)) dX8_count_88 (by decide) ?_
  exact sw_ireturn dX8_count_89 rfl rfl (⟨by unfold c_count; rw [if_neg e0, if_neg e1, if_neg e2, if_neg e3, if_neg e4, if_neg e5], rfl⟩)
def c_slot (s : CS) (b j : Int32) : Int32 := if (0 ≤ b ∧ b < nI s.1.n) ∧ (0 ≤ j ∧ j < nI s.1.p) then remI (offI (s.1.ks b.toNatClampNeg) (nI s.1.p) + j * skpI (s.1.ks b.toNatClampNeg) (nI s.1.p)) (nI s.1.p) else -1
theorem k_slot {G : SG} {d : Nat} {h : AH} {s : CS} {bk j : Int32} (hC : CA h s) : SW G mX8_slot (d + 8) 0 0 0 [.ref 0, .int bk, .int j, .retAddr 0] [] h (fun r h' => r = some (.int (c_slot s bk j)) ∧ h' = h) := by
  obtain ⟨b, q, vb, K, nm, H⟩ := hC
  obtain ⟨hbq, h0, hW, hQ, hT, hL, hB⟩ := id H
  have hn := hW.2.2.2.2.1
  unfold c_slot
  refine sw_aload_n dX8_slot_0 rfl ?_
  refine sw_getf dX8_slot_1 fl_X8_28 (h0) rfl ?_
  refine sw_iload_n dX8_slot_4 rfl ?_
  refine sw_pcv1 dX8_slot_5 cv_X8_106 (rc_of hW.1 rfl) (m_isBackend hW) ?_
  refine sw_ifeq (tgt := 22) dX8_slot_8 (by decide) (fun h1 => ?_) (fun h1 => ?_)
  · rw [if_neg (fun q => bz_eq0.mp h1 q.1)]
    refine sw_iconst (v := (-1)) dX8_slot_22 (by decide) ?_
    exact sw_ireturn dX8_slot_23 rfl rfl (⟨rfl, rfl⟩)
  · have h1 := bz_eq1.mp h1
    refine sw_aload_n dX8_slot_11 rfl ?_
    refine sw_getf dX8_slot_12 fl_X8_28 (h0) rfl ?_
    refine sw_iload_n dX8_slot_15 rfl ?_
    refine sw_pcv1 dX8_slot_16 cv_X8_189 (rc_of hW.1 rfl) (m_isSlot hW) ?_
    refine sw_ifne (tgt := 24) dX8_slot_19 (by decide) (fun h2 => ?_) (fun h2 => ?_)
    · have h2 := bz_eq1.mp h2
      rw [if_pos ⟨h1, h2⟩]
      obtain ⟨i, hi, rfl⟩ := ba_of (by omega) h1
      refine sw_aload_n dX8_slot_24 rfl ?_
      refine sw_getf dX8_slot_25 fl_X8_28 (h0) rfl ?_
      refine sw_getf dX8_slot_28 fl_X8_178 (hW.1) rfl ?_
      refine sw_iload_n dX8_slot_31 rfl ?_
      refine sw_iald dX8_slot_32 (hW.2.1) (vp_in_nI (by omega) (by omega)) (rfl) ?_
      refine sw_istore_n dX8_slot_33 (by decide) rfl ?_
      refine sw_iload_n dX8_slot_34 rfl ?_
      refine sw_aload_n dX8_slot_35 rfl ?_
      refine sw_getf dX8_slot_36 fl_X8_28 (h0) rfl ?_
      refine sw_getf dX8_slot_39 fl_X8_82 (hW.1) rfl ?_
      refine sw_pcs2 dX8_slot_42 cs_X8_181 (m_offsetOf) ?_
      refine sw_iload_n dX8_slot_45 rfl ?_
      refine sw_iload_n dX8_slot_46 rfl ?_
      refine sw_aload_n dX8_slot_47 rfl ?_
      refine sw_getf dX8_slot_48 fl_X8_28 (h0) rfl ?_
      refine sw_getf dX8_slot_51 fl_X8_82 (hW.1) rfl ?_
      refine sw_pcs2 dX8_slot_54 cs_X8_184 (m_skipOf) ?_
      refine sw_imul dX8_slot_57 ?_
      refine sw_iadd dX8_slot_58 ?_
      refine sw_aload_n dX8_slot_59 rfl ?_
      refine sw_getf dX8_slot_60 fl_X8_28 (h0) rfl ?_
      refine sw_getf dX8_slot_63 fl_X8_82 (hW.1) rfl ?_
      refine sw_pcs2 dX8_slot_66 cs_X8_192 (m_modulo) ?_
      exact sw_ireturn dX8_slot_69 rfl rfl (⟨rfl, rfl⟩)
    · rw [if_neg (fun q => bz_eq0.mp h2 q.2)]
      refine sw_iconst (v := (-1)) dX8_slot_22 (by decide) ?_
      exact sw_ireturn dX8_slot_23 rfl rfl (⟨rfl, rfl⟩)
def c_flow (s : CS) (f : Int32) : Int32 := if 0 ≤ f ∧ f ≤ 9999 then slfI f (nI s.1.p) else -1
theorem k_flow {G : SG} {d : Nat} {h : AH} {s : CS} {f : Int32} (hC : CA h s) : SW G mX8_flow (d + 8) 0 0 0 [.ref 0, .int f] [] h (fun r h' => r = some (.int (c_flow s f)) ∧ h' = h) := by
  obtain ⟨b, q, vb, K, nm, H⟩ := hC
  obtain ⟨hbq, h0, hW, hQ, hT, hL, hB⟩ := id H
  unfold c_flow
  refine sw_iload_n dX8_flow_0 rfl ?_
  refine sw_pcs1 dX8_flow_1 cs_X8_140 (m_isFlow) ?_
  refine sw_ifeq (tgt := 21) dX8_flow_4 (by decide) (fun h1 => ?_) (fun h1 => ?_)
  · rw [if_neg (bz_eq0.mp h1)]
    refine sw_iconst (v := (-1)) dX8_flow_21 (by decide) ?_
    exact sw_ireturn dX8_flow_22 rfl rfl (⟨rfl, rfl⟩)
  · rw [if_pos (bz_eq1.mp h1)]
    refine sw_iload_n dX8_flow_7 rfl ?_
    refine sw_aload_n dX8_flow_8 rfl ?_
    refine sw_getf dX8_flow_9 fl_X8_28 (h0) rfl ?_
    refine sw_getf dX8_flow_12 fl_X8_82 (hW.1) rfl ?_
    refine sw_pcs2 dX8_flow_15 cs_X8_226 (m_slotOfFlow) ?_
    refine sw_goto (tgt := 22) dX8_flow_18 (by decide) ?_
    exact sw_ireturn dX8_flow_22 rfl rfl (⟨rfl, rfl⟩)
