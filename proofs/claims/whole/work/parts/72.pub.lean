/-! tables beside one another, by the reference -/
theorem amB_u {m : Nat} {x : Int32} {c : Nat} (hx : x = nI c) (hc : c < 8) : amB m x = m.testBit c := by
  unfold amB
  rw [hx, if_neg (nI_ne_m1 (by omega)), nI_clamp (by omega)]
theorem v10 {x : Int32} {p : Nat} (hp : p ≤ 97) : (10 ≤ x ∧ x ≤ 9 + nI p) ↔ (10 ≤ x ∧ (0 ≤ x - 10 ∧ x - 10 < nI p)) := by
  constructor
  · rintro ⟨h1, h2⟩
    refine ⟨h1, ?_⟩
    have h0 : ¬ x < 0 := by
      rw [Int32.le_iff_toInt_le] at h1
      rw [Int32.lt_iff_toInt_lt]
      have e1 : (10 : Int32).toInt = 10 := rfl
      have e0 : (0 : Int32).toInt = 0 := rfl
      omega
    obtain ⟨k, hk, rfl⟩ := nI_of h0
    rw [show (10 : Int32) = nI 10 from rfl, nI_leI (by omega) hk] at h1
    rw [show (9 : Int32) = nI 9 from rfl, nI_add, nI_leI hk (by omega)] at h2
    rw [show (10 : Int32) = nI 10 from rfl, pk_sub h1]
    exact ⟨nI_pos' (by omega), nI_lt (by omega) (by omega)⟩
  · rintro ⟨h1, h2, h3⟩
    refine ⟨h1, ?_⟩
    have h0 : ¬ x < 0 := by
      rw [Int32.le_iff_toInt_le] at h1
      rw [Int32.lt_iff_toInt_lt]
      have e1 : (10 : Int32).toInt = 10 := rfl
      have e0 : (0 : Int32).toInt = 0 := rfl
      omega
    obtain ⟨k, hk, rfl⟩ := nI_of h0
    rw [show (10 : Int32) = nI 10 from rfl, nI_leI (by omega) hk] at h1
    rw [show (10 : Int32) = nI 10 from rfl, pk_sub h1, nI_ltI (by omega) (by omega)] at h3
    rw [show (9 : Int32) = nI 9 from rfl, nI_add]
    exact nI_le (by omega) (by omega)
theorem n_changed {G : SG} {d T : Nat} {h : AH} {s : CS} {g x : Int32} (hM : RM h s T) : SW G mX9_changed (d + 11) 0 0 0 [.ref 75, .int g, .int x, .retAddr 0, .retAddr 0, .retAddr 0] [] h (fun r h' => r = some (.int (c_changed s g x)) ∧ RM h' s T ∧ SameD h h') := by
  obtain ⟨v, f, tp, H⟩ := hM
  have h5 := H.1.1
  refine sw_aload_n dX9_changed_0 rfl ?_
  refine sw_iconst (v := 0) dX9_changed_1 (by decide) ?_
  refine sw_puti dX9_changed_2 fl_X9_35 (h5) (Nat.le_of_ble_eq_true rfl) (fun g0 z0 e0 o0 => ?_)
  obtain ⟨H, D0⟩ := H.ra e0 z0 o0
  obtain ⟨⟨h5, h6, h77, hS, h83⟩, hR, ⟨t, a, r, htT, hC⟩, ⟨ev, ef⟩, hn, htp⟩ := id H
  have hp := szN_rg _ hC.1
  unfold c_changed
  refine sw_iload_n dX9_changed_5 rfl ?_
  refine sw_pcs1 dX9_changed_6 cs_X9_125 (n_isGate) ?_
  refine sw_ifeq (tgt := 25) dX9_changed_9 (by decide) (fun h1 => ?_) (fun h1 => ?_)
  · rw [if_neg (fun q => bz_eq0.mp h1 q.1)]
    refine sw_iconst (v := (-1)) dX9_changed_25 (by decide) ?_
    exact sw_ireturn dX9_changed_26 rfl rfl (⟨rfl, H.M, D0⟩)
  · have h1 := bz_eq1.mp h1
    obtain ⟨gi, hgi, rfl⟩ := ga_of h1
    simp only [nI_clamp (show gi < 2 ^ 31 by omega)]
    refine sw_aload_n dX9_changed_12 rfl ?_
    refine sw_getf dX9_changed_13 fl_X9_7 (h5) rfl ?_
    refine sw_sipush (v := 249) dX9_changed_16 (by decide) ?_
    refine sw_iload_n dX9_changed_19 rfl ?_
    refine sw_iadd dX9_changed_20 ?_
    refine sw_iald dX9_changed_21 (h6) (wi (ix2 (a := 249)) (by omega) (by omega)) (wv (ix2 (a := 249)) (by omega) (hR.2.2.1 gi hgi).2.1) ?_
    refine sw_ifne (tgt := 27) dX9_changed_22 (by decide) (fun h2 => ?_) (fun h2 => ?_)
    · rw [if_pos ⟨h1, h2⟩]
      have hkp := (hR.2.2.1 gi hgi).2.2 h2
      refine sw_iload_n dX9_changed_27 rfl ?_
      refine sw_bipush (v := 10) dX9_changed_28 (by decide) ?_
      refine sw_bipush (v := 9) dX9_changed_30 (by decide) ?_
      refine sw_aload_n dX9_changed_32 rfl ?_
      refine sw_getf dX9_changed_33 fl_X9_7 (h5) rfl ?_
      refine sw_iconst (v := 0) dX9_changed_36 (by decide) ?_
      refine sw_iald dX9_changed_37 (h6) (vp_in_nI (n := 0) (by omega) (by omega)) (hR.1.1) ?_
      refine sw_iadd dX9_changed_38 ?_
      refine sw_pcs3 dX9_changed_39 cs_X9_39 (n_in) ?_
      rw [bz_iff (v10 (by omega))]
      refine sw_ifeq (tgt := 64) dX9_changed_42 (by decide) (fun h3 => ?_) (fun h3 => ?_)
      · have h3 := bz_eq0.mp h3
        rw [if_neg h3]
        refine sw_iload_n dX9_changed_64 rfl ?_
        refine sw_iconst (v := 0) dX9_changed_65 (by decide) ?_
        refine sw_iconst (v := 1) dX9_changed_66 (by decide) ?_
        refine sw_pcs3 dX9_changed_67 cs_X9_39 (n_in) ?_
        refine sw_ifne (tgt := 75) dX9_changed_70 (by decide) (fun h4 => ?_) (fun h4 => ?_)
        · have h4 := bz_eq1.mp h4
          have hx01 : x = 0 ∨ x = 1 := by
            obtain ⟨k, hk, rfl⟩ := nI_of2 (M := 1) (n := 1) rfl (nI_not0 h4.1) h4.2
            rcases (show k = 0 ∨ k = 1 by omega) with rfl | rfl
            · exact Or.inl rfl
            · exact Or.inr rfl
          rw [if_pos hx01]
          have hz : ((if x = 1 then 1 else 0 : Int32) = 0) ↔ x = 0 := by
            rcases hx01 with rfl | rfl
            · exact ⟨fun _ => rfl, fun _ => rfl⟩
            · exact ⟨fun q => absurd q (by decide), fun q => absurd q (by decide)⟩
          generalize (if x = 1 then 1 else 0 : Int32) = z at hz
          refine sw_aload_n dX9_changed_75 rfl ?_
          refine sw_iload_n dX9_changed_76 rfl ?_
          refine sw_cv1 dX9_changed_77 cv_X9_94 (rc_of h5 rfl) (n_laysGate (g := gi) h5 h6 hS hR hC hgi) (fun rr g1 hr => ?_)
          obtain ⟨rfl, hZ, hS1, ⟨u, h80, hu⟩, ⟨t1, h8, ht1⟩, -⟩ := hr
          obtain ⟨H1, D1⟩ := H.z hZ hS1
          have h5 := H1.1.1
          have h6 := H1.1.2.1
          have hrg : rg8 (s.1.gs gi).2.1 s.1.p := hC.kp gi hgi h2
          have loop : ∀ (c i : Nat) (v5 : Value), i + c = s.1.p → SW G mX9_changed (d + 11) 0 0 85 [.ref 75, .int (nI gi), .int x, .int (nI (chg (s.1.gs gi).2.1 (wT s.1 (wU s.1 gi)) (wU s.1 gi) z i)), .int (nI i), v5] [] g1 (fun r h' => r = some (.int (nI (chg (s.1.gs gi).2.1 (wT s.1 (wU s.1 gi)) (wU s.1 gi) z s.1.p))) ∧ RM h' s T ∧ SameD h h') := by
            intro c
            induction c with
            | zero =>
              intro i v5 hi
              have : i = s.1.p := by omega
              subst this
              refine sw_iload dX9_changed_85 rfl ?_
              refine sw_aload_n dX9_changed_87 rfl ?_
              refine sw_getf dX9_changed_88 fl_X9_7 (h5) rfl ?_
              refine sw_iconst (v := 0) dX9_changed_91 (by decide) ?_
              refine sw_iald dX9_changed_92 (h6) (vp_in_nI (n := 0) (by omega) (by omega)) (hR.1.1) ?_
              refine sw_cmpge (tgt := 160) dX9_changed_93 (by decide) (fun hc => ?_) (fun hc => ?_)
              · refine sw_iload_n dX9_changed_160 rfl ?_
                exact sw_ireturn dX9_changed_161 rfl rfl (⟨rfl, H1.M, D0.tr D1⟩)
              · exact absurd (nI_le (Nat.le_refl _) (by omega)) hc
            | succ c ih =>
              intro i v5 hi
              have fin : ∀ (v5 : Value) (k : Nat), chg (s.1.gs gi).2.1 (wT s.1 (wU s.1 gi)) (wU s.1 gi) z (i + 1) = chg (s.1.gs gi).2.1 (wT s.1 (wU s.1 gi)) (wU s.1 gi) z i + k → SW G mX9_changed (d + 11) 0 0 152 [.ref 75, .int (nI gi), .int x, .int (nI (chg (s.1.gs gi).2.1 (wT s.1 (wU s.1 gi)) (wU s.1 gi) z i)), .int (nI i), v5] [.int (nI k), .int (nI (chg (s.1.gs gi).2.1 (wT s.1 (wU s.1 gi)) (wU s.1 gi) z i))] g1 (fun r h' => r = some (.int (nI (chg (s.1.gs gi).2.1 (wT s.1 (wU s.1 gi)) (wU s.1 gi) z s.1.p))) ∧ RM h' s T ∧ SameD h h') := by
                intro v5 k hk
                refine sw_iadd dX9_changed_152 ?_
                rw [nI_add, ← hk]
                refine sw_istore_n dX9_changed_153 (by decide) rfl ?_
                refine sw_iinc (v := nI (i + 1)) dX9_changed_154 rfl (nI_1 i) (by decide) rfl ?_
                refine sw_goto (tgt := 85) dX9_changed_157 (by decide) ?_
                exact ih (i + 1) v5 (by omega)
              refine sw_iload dX9_changed_85 rfl ?_
              refine sw_aload_n dX9_changed_87 rfl ?_
              refine sw_getf dX9_changed_88 fl_X9_7 (h5) rfl ?_
              refine sw_iconst (v := 0) dX9_changed_91 (by decide) ?_
              refine sw_iald dX9_changed_92 (h6) (vp_in_nI (n := 0) (by omega) (by omega)) (hR.1.1) ?_
              refine sw_cmpge (tgt := 160) dX9_changed_93 (by decide) (fun hc => ?_) (fun hc => ?_)
              · exact absurd hc (nI_ge (by omega) (by omega))
              · refine sw_aload_n dX9_changed_96 rfl ?_
                refine sw_getf dX9_changed_97 fl_X9_7 (h5) rfl ?_
                refine sw_sipush (v := 253) dX9_changed_100 (by decide) ?_
                refine sw_bipush (v := 97) dX9_changed_103 (by decide) ?_
                refine sw_iload_n dX9_changed_105 rfl ?_
                refine sw_imul dX9_changed_106 ?_
                refine sw_iadd dX9_changed_107 ?_
                refine sw_iload dX9_changed_108 rfl ?_
                refine sw_iadd dX9_changed_110 ?_
                refine sw_iald dX9_changed_111 (h6) (wi (ix3 (a := 253) (c := 97)) (by omega) (by omega)) (wv (ix3 (a := 253) (c := 97)) (by omega) (hkp i (by omega))) ?_
                refine sw_istore dX9_changed_112 (by decide) rfl ?_
                refine sw_iload_n dX9_changed_114 rfl ?_
                refine sw_iload dX9_changed_115 rfl ?_
                refine sw_aload_n dX9_changed_117 rfl ?_
                refine sw_getf dX9_changed_118 fl_X9_16 (h5) rfl ?_
                refine sw_iload dX9_changed_121 rfl ?_
                refine sw_iald dX9_changed_123 (h8) (vp_in_nI (by omega) (by omega)) (nIat (by omega) (ht1 i (by omega))) ?_
                refine sw_cmpeq (tgt := 151) dX9_changed_124 (by decide) (fun hq => ?_) (fun hq => ?_)
                · refine sw_iconst (v := 0) dX9_changed_151 (by decide) ?_
                  exact fin _ 0 (by rw [chg, if_neg (fun q => q.1 hq)]; rfl)
                · refine sw_iload_n dX9_changed_127 rfl ?_
                  refine sw_ifeq (tgt := 147) dX9_changed_128 (by decide) (fun hx0 => ?_) (fun hx0 => ?_)
                  · refine sw_iconst (v := 1) dX9_changed_147 (by decide) ?_
                    refine sw_goto (tgt := 152) dX9_changed_148 (by decide) ?_
                    exact fin _ 1 (by rw [chg, if_pos ⟨hq, Or.inl (hz.mpr hx0)⟩])
                  · refine sw_iload dX9_changed_131 rfl ?_
                    refine sw_iconst (v := (-1)) dX9_changed_133 (by decide) ?_
                    refine sw_cmpeq (tgt := 151) dX9_changed_134 (by decide) (fun hm1 => ?_) (fun hm1 => ?_)
                    · refine sw_iconst (v := 0) dX9_changed_151 (by decide) ?_
                      exact fin _ 0 (by rw [chg, if_neg (fun q => q.2.elim (fun y => hx0 (hz.mp y)) (fun y => by rw [hm1] at y; exact absurd y (by unfold amB; rw [if_pos rfl]; exact Bool.false_ne_true)))]; rfl)
                    · obtain ⟨c0, hc0, hce⟩ := (hrg i (by omega)).resolve_left hm1
                      refine sw_aload_n dX9_changed_137 rfl ?_
                      refine sw_getf dX9_changed_138 fl_X9_22 (h5) rfl ?_
                      refine sw_iload dX9_changed_141 rfl ?_
                      refine sw_zald (v := bz ((wU s.1 gi).testBit c0 = true)) dX9_changed_143 (h80) (by rw [hce]; exact vp_in_nI (by omega) (by omega)) (by rw [hce, nI_clamp (by omega)]; exact hu c0 hc0) ?_
                      refine sw_ifeq (tgt := 151) dX9_changed_144 (by decide) (fun hub => ?_) (fun hub => ?_)
                      · refine sw_iconst (v := 0) dX9_changed_151 (by decide) ?_
                        exact fin _ 0 (by rw [chg, if_neg (fun q => q.2.elim (fun y => hx0 (hz.mp y)) (fun y => bz_eq0.mp hub (by rw [← amB_u hce hc0]; exact y)))]; rfl)
                      · refine sw_iconst (v := 1) dX9_changed_147 (by decide) ?_
                        refine sw_goto (tgt := 152) dX9_changed_148 (by decide) ?_
                        exact fin _ 1 (by rw [chg, if_pos ⟨hq, Or.inr (by rw [amB_u hce hc0]; exact bz_eq1.mp hub)⟩])
          refine sw_iconst (v := 0) dX9_changed_80 (by decide) ?_
          refine sw_istore_n dX9_changed_81 (by decide) rfl ?_
          refine sw_iconst (v := 0) dX9_changed_82 (by decide) ?_
          refine sw_istore dX9_changed_83 (by decide) rfl ?_
          exact loop s.1.p 0 _ (by omega)
        · have h4 := bz_eq0.mp h4
          rw [if_neg (fun q => h4 (by rcases q with rfl | rfl <;> decide))]
          refine sw_iconst (v := (-1)) dX9_changed_73 (by decide) ?_
          exact sw_ireturn dX9_changed_74 rfl rfl (⟨rfl, H.M, D0⟩)
      · have h3 := bz_eq1.mp h3
        rw [if_pos h3]
        obtain ⟨i, hi, hxe⟩ := ba_of (by omega) h3.2
        have hix : (253 : Int32) + 97 * nI gi + x - 10 = nI (253 + 97 * gi + i) := by
          rw [show (253 : Int32) + 97 * nI gi + x - 10 = (253 + 97 * nI gi) + (x - 10) by rw [Int32.sub_eq_add_neg, Int32.add_assoc, ← Int32.sub_eq_add_neg], hxe]
          exact ix3
        refine sw_aload_n dX9_changed_45 rfl ?_
        refine sw_getf dX9_changed_46 fl_X9_7 (h5) rfl ?_
        refine sw_sipush (v := 253) dX9_changed_49 (by decide) ?_
        refine sw_bipush (v := 97) dX9_changed_52 (by decide) ?_
        refine sw_iload_n dX9_changed_54 rfl ?_
        refine sw_imul dX9_changed_55 ?_
        refine sw_iadd dX9_changed_56 ?_
        refine sw_iload_n dX9_changed_57 rfl ?_
        refine sw_iadd dX9_changed_58 ?_
        refine sw_bipush (v := 10) dX9_changed_59 (by decide) ?_
        refine sw_isub dX9_changed_61 ?_
        refine sw_iald dX9_changed_62 (h6) (wi hix (by omega) (by omega)) (wv hix (by omega) (hkp i hi)) ?_
        exact sw_ireturn dX9_changed_63 rfl rfl (⟨by rw [hxe, nI_clamp (by omega)], H.M, D0⟩)
    · rw [if_neg (fun q => q.2 h2)]
      refine sw_iconst (v := (-1)) dX9_changed_25 (by decide) ?_
      exact sw_ireturn dX9_changed_26 rfl rfl (⟨rfl, H.M, D0⟩)
/-- how many are the same -/
def alk (t1 t2 : Nat → Int32) : Nat → Nat
  | 0 => 0
  | i + 1 => alk t1 t2 i + if t2 i = t1 i then 1 else 0
theorem alk_chg (t1 t2 : Nat → Int32) (m : Nat) : ∀ p, alk t1 t2 p + chg t1 t2 m 0 p = p := by
  intro p
  induction p with
  | zero => rfl
  | succ p ih =>
    unfold alk chg
    by_cases h : t2 p = t1 p
    · rw [if_pos h, if_neg (fun q => q.1 h.symm)]; omega
    · rw [if_neg h, if_pos ⟨fun q => h q.symm, Or.inl rfl⟩]; omega
theorem n_alike {G : SG} {d T : Nat} {h : AH} {s : CS} {g o : Int32} (hM : RM h s T) : SW G mX9_alike (d + 11) 0 0 0 [.ref 75, .int g, .int o, .retAddr 0, .retAddr 0] [] h (fun r h' => r = some (.int (c_alike s g o)) ∧ RM h' s T ∧ SameD h h') := by
  obtain ⟨v, f, tp, H⟩ := hM
  have h5 := H.1.1
  refine sw_aload_n dX9_alike_0 rfl ?_
  refine sw_iconst (v := 0) dX9_alike_1 (by decide) ?_
  refine sw_puti dX9_alike_2 fl_X9_35 (h5) (Nat.le_of_ble_eq_true rfl) (fun g0 z0 e0 o0 => ?_)
  obtain ⟨H, D0⟩ := H.ra e0 z0 o0
  obtain ⟨⟨h5, h6, h77, hS, h83⟩, hR, ⟨t, a, r, htT, hC⟩, ⟨ev, ef⟩, hn, htp⟩ := id H
  have hp := szN_rg _ hC.1
  unfold c_alike
  refine sw_iload_n dX9_alike_5 rfl ?_
  refine sw_pcs1 dX9_alike_6 cs_X9_125 (n_isGate) ?_
  refine sw_ifeq (tgt := 19) dX9_alike_9 (by decide) (fun h1 => ?_) (fun h1 => ?_)
  · rw [if_neg (fun q => bz_eq0.mp h1 q.1)]
    refine sw_iconst (v := (-1)) dX9_alike_19 (by decide) ?_
    exact sw_ireturn dX9_alike_20 rfl rfl (⟨rfl, H.M, D0⟩)
  · have h1 := bz_eq1.mp h1
    refine sw_iload_n dX9_alike_12 rfl ?_
    refine sw_pcs1 dX9_alike_13 cs_X9_125 (n_isGate) ?_
    refine sw_ifne (tgt := 21) dX9_alike_16 (by decide) (fun h2 => ?_) (fun h2 => ?_)
    · have h2 := bz_eq1.mp h2
      rw [if_pos ⟨h1, h2⟩]
      obtain ⟨gi, hgi, rfl⟩ := ga_of h1
      obtain ⟨oi, hoi, rfl⟩ := ga_of h2
      rw [nI_clamp (by omega), nI_clamp (by omega)]
      refine sw_aload_n dX9_alike_21 rfl ?_
      refine sw_iload_n dX9_alike_22 rfl ?_
      refine sw_cv1 dX9_alike_23 cv_X9_94 (rc_of h5 rfl) (n_laysGate (g := gi) h5 h6 hS hR hC hgi) (fun rr g1 hr => ?_)
      obtain ⟨rfl, hZ, hS1, -, hL1, -⟩ := hr
      obtain ⟨H1, D1⟩ := H.z hZ hS1
      have h5 := H1.1.1
      have h6 := H1.1.2.1
      refine sw_aload_n dX9_alike_26 rfl ?_
      refine sw_cv0 dX9_alike_27 cv_X9_270 (rc_of h5 rfl) (n_copiesLaid h5 h6 hS1 hR.1.1 (by omega) hL1) (fun rr g2 hr => ?_)
      obtain ⟨rfl, z2, o2, t9, h79, ht9⟩ := hr
      obtain ⟨⟨q8, w8⟩, -, ⟨q0, w0⟩, ⟨q1, w1⟩, ⟨q2, w2⟩⟩ := id hS1
      have hS2 : SC g2 := ⟨⟨q8, (o2 78 (by omega)).trans w8⟩, ⟨t9, h79⟩, ⟨q0, (o2 80 (by omega)).trans w0⟩, ⟨q1, (o2 81 (by omega)).trans w1⟩, ⟨q2, (o2 82 (by omega)).trans w2⟩⟩
      obtain ⟨H2, D2⟩ := H1.z ⟨z2, fun j hj => o2 j (by omega)⟩ hS2
      have h5 := H2.1.1
      have h6 := H2.1.2.1
      refine sw_aload_n dX9_alike_30 rfl ?_
      refine sw_iload_n dX9_alike_31 rfl ?_
      refine sw_cv1 dX9_alike_32 cv_X9_94 (rc_of h5 rfl) (n_laysGate (g := oi) h5 h6 hS2 hR hC hoi) (fun rr g3 hr => ?_)
      obtain ⟨rfl, hZ3, hS3, -, ⟨t8, h8, ht8⟩, k79⟩ := hr
      obtain ⟨H3, D3⟩ := H2.z hZ3 hS3
      have h5 := H3.1.1
      have h6 := H3.1.2.1
      have h79 := k79 t9 h79
      have loop : ∀ (c i : Nat), i + c = s.1.p → SW G mX9_alike (d + 11) 0 0 40 [.ref 75, .int (nI gi), .int (nI oi), .int (nI (alk (wT s.1 (wU s.1 gi)) (wT s.1 (wU s.1 oi)) i)), .int (nI i)] [] g3 (fun r h' => r = some (.int (nI s.1.p - nI (chg (wT s.1 (wU s.1 gi)) (wT s.1 (wU s.1 oi)) 0 0 s.1.p))) ∧ RM h' s T ∧ SameD h h') := by
        intro c
        induction c with
        | zero =>
          intro i hi
          have : i = s.1.p := by omega
          subst this
          have hsum := alk_chg (wT s.1 (wU s.1 gi)) (wT s.1 (wU s.1 oi)) 0 s.1.p
          refine sw_iload dX9_alike_40 rfl ?_
          refine sw_aload_n dX9_alike_42 rfl ?_
          refine sw_getf dX9_alike_43 fl_X9_7 (h5) rfl ?_
          refine sw_iconst (v := 0) dX9_alike_46 (by decide) ?_
          refine sw_iald dX9_alike_47 (h6) (vp_in_nI (n := 0) (by omega) (by omega)) (hR.1.1) ?_
          refine sw_cmpge (tgt := 82) dX9_alike_48 (by decide) (fun hc => ?_) (fun hc => ?_)
          · refine sw_iload_n dX9_alike_82 rfl ?_
            exact sw_ireturn dX9_alike_83 rfl rfl (⟨by rw [pk_sub (by omega), show alk (wT s.1 (wU s.1 gi)) (wT s.1 (wU s.1 oi)) s.1.p = s.1.p - chg (wT s.1 (wU s.1 gi)) (wT s.1 (wU s.1 oi)) 0 0 s.1.p by omega], H3.M, D0.tr (D1.tr (D2.tr D3))⟩)
          · exact absurd (nI_le (Nat.le_refl _) (by omega)) hc
        | succ c ih =>
          intro i hi
          have fin : ∀ (k : Nat), alk (wT s.1 (wU s.1 gi)) (wT s.1 (wU s.1 oi)) (i + 1) = alk (wT s.1 (wU s.1 gi)) (wT s.1 (wU s.1 oi)) i + k → SW G mX9_alike (d + 11) 0 0 74 [.ref 75, .int (nI gi), .int (nI oi), .int (nI (alk (wT s.1 (wU s.1 gi)) (wT s.1 (wU s.1 oi)) i)), .int (nI i)] [.int (nI k), .int (nI (alk (wT s.1 (wU s.1 gi)) (wT s.1 (wU s.1 oi)) i))] g3 (fun r h' => r = some (.int (nI s.1.p - nI (chg (wT s.1 (wU s.1 gi)) (wT s.1 (wU s.1 oi)) 0 0 s.1.p))) ∧ RM h' s T ∧ SameD h h') := by
            intro k hk
            refine sw_iadd dX9_alike_74 ?_
            rw [nI_add, ← hk]
            refine sw_istore_n dX9_alike_75 (by decide) rfl ?_
            refine sw_iinc (v := nI (i + 1)) dX9_alike_76 rfl (nI_1 i) (by decide) rfl ?_
            refine sw_goto (tgt := 40) dX9_alike_79 (by decide) ?_
            exact ih (i + 1) (by omega)
          refine sw_iload dX9_alike_40 rfl ?_
          refine sw_aload_n dX9_alike_42 rfl ?_
          refine sw_getf dX9_alike_43 fl_X9_7 (h5) rfl ?_
          refine sw_iconst (v := 0) dX9_alike_46 (by decide) ?_
          refine sw_iald dX9_alike_47 (h6) (vp_in_nI (n := 0) (by omega) (by omega)) (hR.1.1) ?_
          refine sw_cmpge (tgt := 82) dX9_alike_48 (by decide) (fun hc => ?_) (fun hc => ?_)
          · exact absurd hc (nI_ge (by omega) (by omega))
          · refine sw_iload_n dX9_alike_51 rfl ?_
            refine sw_aload_n dX9_alike_52 rfl ?_
            refine sw_getf dX9_alike_53 fl_X9_16 (h5) rfl ?_
            refine sw_iload dX9_alike_56 rfl ?_
            refine sw_iald dX9_alike_58 (h8) (vp_in_nI (by omega) (by omega)) (nIat (by omega) (ht8 i (by omega))) ?_
            refine sw_aload_n dX9_alike_59 rfl ?_
            refine sw_getf dX9_alike_60 fl_X9_19 (h5) rfl ?_
            refine sw_iload dX9_alike_63 rfl ?_
            refine sw_iald dX9_alike_65 (h79) (vp_in_nI (by omega) (by omega)) (nIat (by omega) (ht9 i (by omega))) ?_
            refine sw_cmpne (tgt := 73) dX9_alike_66 (by decide) (fun hq => ?_) (fun hq => ?_)
            · refine sw_iconst (v := 0) dX9_alike_73 (by decide) ?_
              exact fin 0 (by rw [alk, if_neg hq])
            · refine sw_iconst (v := 1) dX9_alike_69 (by decide) ?_
              refine sw_goto (tgt := 74) dX9_alike_70 (by decide) ?_
              exact fin 1 (by rw [alk, if_pos hq])
      refine sw_iconst (v := 0) dX9_alike_35 (by decide) ?_
      refine sw_istore_n dX9_alike_36 (by decide) rfl ?_
      refine sw_iconst (v := 0) dX9_alike_37 (by decide) ?_
      refine sw_istore dX9_alike_38 (by decide) rfl ?_
      exact loop s.1.p 0 (by omega)
    · rw [if_neg (fun q => bz_eq0.mp h2 q.2)]
      refine sw_iconst (v := (-1)) dX9_alike_19 (by decide) ?_
      exact sw_ireturn dX9_alike_20 rfl rfl (⟨rfl, H.M, D0⟩)
/-! were it otherwise -/
theorem clr_all : ∀ m, m < 256 → ∀ b, b < 8 → ∀ j, j < 8 → (clr m b).testBit j = (decide (j ≠ b) && m.testBit j) := by decide +kernel
theorem thn_bit {m b j : Nat} {st : Int32} (hm : m < 256) (hb : b < 8) (hj : j < 8) : (thn m b st).testBit j = true ↔ (if j = b then st = 1 else m.testBit j = true) := by
  unfold thn
  by_cases hs : st = 1
  · rw [if_pos hs, Nat.testBit_or, Nat.testBit_two_pow]
    by_cases hjb : j = b
    · rw [if_pos hjb]; subst hjb; simp [hs]
    · rw [if_neg hjb]; simp [Ne.symm hjb]
  · rw [if_neg hs, clr_all m hm b hb j hj]
    by_cases hjb : j = b
    · rw [if_pos hjb]; simp [hjb, hs]
    · rw [if_neg hjb]; simp [hjb]
theorem n_wereBy {G : SG} {d gi bk t a r : Nat} {h : AH} {v : MV} {f : Nat → Int32} {w : WS} {st z : Int32} (h5 : MoAt h v) (h6 : RoAt h f) (hS : SC h) (hR : MR f w) (hC : cIn w t a r) (hgi : gi < 4) (hbk : bk < w.n) : SW G mX9_wereBy (d + 5) 0 0 0 [.ref 75, .int (nI gi), .int (nI bk), .int st, .int z, .retAddr 0, .retAddr 0] [] h (fun r h' => r = some (.int (nI (chg (wT w (wU w gi)) (wT w (thn (wU w gi) bk st)) (thn (wU w gi) bk st) z w.p))) ∧ SameZ h h' ∧ SC h') := by
  have hp := szN_rg _ hC.1
  have hn8 := hC.2.1
  have hm256 := wU_lt w gi
  have ht256 : thn (wU w gi) bk st < 256 := thn_lt hm256 (by omega)
  refine sw_aload_n dX9_wereBy_0 rfl ?_
  refine sw_iload_n dX9_wereBy_1 rfl ?_
  refine sw_cv1 dX9_wereBy_2 cv_X9_94 (rc_of h5 rfl) (n_laysGate (g := gi) h5 h6 hS hR hC hgi) (fun rr g1 hr => ?_)
  obtain ⟨rfl, hZ, hS1, hU1, hL1, -⟩ := hr
  have h5 : MoAt g1 v := (hZ.2 75 (by omega)).trans h5
  have h6 : RoAt g1 f := (hZ.2 76 (by omega)).trans h6
  refine sw_aload_n dX9_wereBy_5 rfl ?_
  refine sw_cv0 dX9_wereBy_6 cv_X9_270 (rc_of h5 rfl) (n_copiesLaid h5 h6 hS1 hR.1.1 (by omega) hL1) (fun rr g2 hr => ?_)
  obtain ⟨rfl, z2, o2, t9, h79, ht9⟩ := hr
  obtain ⟨⟨q8, w8⟩, -, -, ⟨q1, w1⟩, ⟨q2, w2⟩⟩ := id hS1
  obtain ⟨u, h80, hu⟩ := hU1
  have h5 : MoAt g2 v := (o2 75 (by omega)).trans h5
  have h6 : RoAt g2 f := (o2 76 (by omega)).trans h6
  have h80 := (o2 80 (by omega)).trans h80
  have fin : ∀ x : Int32, (x = 0 ∨ x = 1) → x = bz (st = 1) → SW G mX9_wereBy (d + 5) 0 0 24 [.ref 75, .int (nI gi), .int (nI bk), .int st, .int z, .retAddr 0, .retAddr 0] [.int x, .int (nI bk), .ref 80] g2 (fun r h' => r = some (.int (nI (chg (wT w (wU w gi)) (wT w (thn (wU w gi) bk st)) (thn (wU w gi) bk st) z w.p))) ∧ SameZ h h' ∧ SC h') := by
    intro x hx01 hx
    refine sw_zast dX9_wereBy_24 (h80) (vp_in_nI (by omega) (by omega)) (hx01) (fun g3 z3 e3 o3 => ?_)
    rw [nIupd (by omega)] at e3
    have h5 : MoAt g3 v := (o3 75 (by omega)).trans h5
    have h6 : RoAt g3 f := (o3 76 (by omega)).trans h6
    have hS3 : SC g3 := ⟨⟨q8, ((o3 78 (by omega)).trans (o2 78 (by omega))).trans w8⟩, ⟨t9, (o3 79 (by omega)).trans h79⟩, ⟨_, e3⟩, ⟨q1, ((o3 81 (by omega)).trans (o2 81 (by omega))).trans w1⟩, ⟨q2, ((o3 82 (by omega)).trans (o2 82 (by omega))).trans w2⟩⟩
    have hU3 : UpAt g3 (thn (wU w gi) bk st) := by
      refine ⟨_, e3, fun j hj => ?_⟩
      rw [bz_iff (thn_bit hm256 (by omega) hj)]
      by_cases hjb : j = bk
      · subst hjb
        rw [upd_at, hx, bz_iff (show st = 1 ↔ (if j = j then st = 1 else (wU w gi).testBit j = true) by rw [if_pos rfl])]
      · rw [upd_ne hjb, hu j hj, bz_iff (show (wU w gi).testBit j = true ↔ (if j = bk then st = 1 else (wU w gi).testBit j = true) by rw [if_neg hjb])]
    have hm3 : ∀ b, (thn (wU w gi) bk st).testBit b = true → b < w.n := by
      intro b hb
      by_cases hb8 : b < 8
      · have := (thn_bit hm256 (show bk < 8 by omega) hb8).mp hb
        by_cases hbb : b = bk
        · omega
        · rw [if_neg hbb] at this; exact wU_n hC hgi b this
      · exfalso
        rw [Nat.testBit_lt_two_pow (Nat.lt_of_lt_of_le ht256 (show 256 ≤ 2 ^ b from Nat.pow_le_pow_right (n := 2) (by decide) (show 8 ≤ b by omega)))] at hb
        exact absurd hb (by decide)
    refine sw_aload_n dX9_wereBy_25 rfl ?_
    refine sw_aload_n dX9_wereBy_26 rfl ?_
    refine sw_getf dX9_wereBy_27 fl_X9_7 (h5) rfl ?_
    refine sw_iconst (v := 0) dX9_wereBy_30 (by decide) ?_
    refine sw_iald dX9_wereBy_31 (h6) (vp_in_nI (n := 0) (by omega) (by omega)) (hR.1.1) ?_
    refine sw_cv1 dX9_wereBy_32 cv_X9_71 (rc_of h5 rfl) (n_laysU (p := w.p) (m := thn (wU w gi) bk st) h5 h6 hS3 hR hC hU3 hm3 hC.1) (fun rr g4 hr => ?_)
    obtain ⟨rfl, hZ4, hS4, ⟨u4, h80, hu4⟩, ⟨t8, h8, ht8⟩, k79⟩ := hr
    have h79 : g4[79]? = some (.inl (0, 97, .inl t9)) := k79.trans ((o3 79 (by omega)).trans h79)
    have h5 : MoAt g4 v := (hZ4.2 75 (by omega)).trans h5
    have h6 : RoAt g4 f := (hZ4.2 76 (by omega)).trans h6
    have hZZ : SameZ h g4 := hZ.tr (SameZ.tr ⟨z2, fun j hj => o2 j (by omega)⟩ (SameZ.tr ⟨z3, fun j hj => o3 j (by omega)⟩ hZ4))
    have hrg : rg8 (wT w (wU w gi)) w.p := tbl_rg8 hn8
    have ht8 : ∀ j, j < w.p → t8 j = wT w (thn (wU w gi) bk st) j := ht8
    generalize thn (wU w gi) bk st = m' at *
    generalize wT w (wU w gi) = T1 at *
    have loop : ∀ (c i : Nat), i + c = w.p → SW G mX9_wereBy (d + 5) 0 0 41 [.ref 75, .int (nI gi), .int (nI bk), .int st, .int z, .int (nI (chg T1 (wT w m') m' z i)), .int (nI i)] [] g4 (fun r h' => r = some (.int (nI (chg T1 (wT w m') m' z w.p))) ∧ SameZ h h' ∧ SC h') := by
      intro c
      induction c with
      | zero =>
        intro i hi
        have : i = w.p := by omega
        subst this
        refine sw_iload dX9_wereBy_41 rfl ?_
        refine sw_aload_n dX9_wereBy_43 rfl ?_
        refine sw_getf dX9_wereBy_44 fl_X9_7 (h5) rfl ?_
        refine sw_iconst (v := 0) dX9_wereBy_47 (by decide) ?_
        refine sw_iald dX9_wereBy_48 (h6) (vp_in_nI (n := 0) (by omega) (by omega)) (hR.1.1) ?_
        refine sw_cmpge (tgt := 116) dX9_wereBy_49 (by decide) (fun hc => ?_) (fun hc => ?_)
        · refine sw_iload dX9_wereBy_116 rfl ?_
          exact sw_ireturn dX9_wereBy_118 rfl rfl (⟨rfl, hZZ, hS4⟩)
        · exact absurd (nI_le (Nat.le_refl _) (by omega)) hc
      | succ c ih =>
        intro i hi
        have fin : ∀ (k : Nat), chg T1 (wT w m') m' z (i + 1) = chg T1 (wT w m') m' z i + k → SW G mX9_wereBy (d + 5) 0 0 107 [.ref 75, .int (nI gi), .int (nI bk), .int st, .int z, .int (nI (chg T1 (wT w m') m' z i)), .int (nI i)] [.int (nI k), .int (nI (chg T1 (wT w m') m' z i))] g4 (fun r h' => r = some (.int (nI (chg T1 (wT w m') m' z w.p))) ∧ SameZ h h' ∧ SC h') := by
          intro k hk
          refine sw_iadd dX9_wereBy_107 ?_
          rw [nI_add, ← hk]
          refine sw_istore dX9_wereBy_108 (by decide) rfl ?_
          refine sw_iinc (v := nI (i + 1)) dX9_wereBy_110 rfl (nI_1 i) (by decide) rfl ?_
          refine sw_goto (tgt := 41) dX9_wereBy_113 (by decide) ?_
          exact ih (i + 1) (by omega)
        refine sw_iload dX9_wereBy_41 rfl ?_
        refine sw_aload_n dX9_wereBy_43 rfl ?_
        refine sw_getf dX9_wereBy_44 fl_X9_7 (h5) rfl ?_
        refine sw_iconst (v := 0) dX9_wereBy_47 (by decide) ?_
        refine sw_iald dX9_wereBy_48 (h6) (vp_in_nI (n := 0) (by omega) (by omega)) (hR.1.1) ?_
        refine sw_cmpge (tgt := 116) dX9_wereBy_49 (by decide) (fun hc => ?_) (fun hc => ?_)
        · exact absurd hc (nI_ge (by omega) (by omega))
        · refine sw_iload dX9_wereBy_52 rfl ?_
          refine sw_aload_n dX9_wereBy_54 rfl ?_
          refine sw_getf dX9_wereBy_55 fl_X9_16 (h5) rfl ?_
          refine sw_iload dX9_wereBy_58 rfl ?_
          refine sw_iald dX9_wereBy_60 (h8) (vp_in_nI (by omega) (by omega)) (nIat (by omega) (ht8 i (by omega))) ?_
          refine sw_aload_n dX9_wereBy_61 rfl ?_
          refine sw_getf dX9_wereBy_62 fl_X9_19 (h5) rfl ?_
          refine sw_iload dX9_wereBy_65 rfl ?_
          refine sw_iald dX9_wereBy_67 (h79) (vp_in_nI (by omega) (by omega)) (nIat (by omega) (ht9 i (by omega))) ?_
          refine sw_cmpeq (tgt := 106) dX9_wereBy_68 (by decide) (fun hq => ?_) (fun hq => ?_)
          · refine sw_iconst (v := 0) dX9_wereBy_106 (by decide) ?_
            exact fin 0 (by rw [chg, if_neg (fun q => q.1 hq.symm)]; rfl)
          · have hq : ¬ T1 i = wT w m' i := fun q => hq q.symm
            refine sw_iload dX9_wereBy_71 rfl ?_
            refine sw_ifeq (tgt := 102) dX9_wereBy_73 (by decide) (fun hz => ?_) (fun hz => ?_)
            · refine sw_iconst (v := 1) dX9_wereBy_102 (by decide) ?_
              refine sw_goto (tgt := 107) dX9_wereBy_103 (by decide) ?_
              exact fin 1 (by rw [chg, if_pos ⟨hq, Or.inl hz⟩])
            · refine sw_aload_n dX9_wereBy_76 rfl ?_
              refine sw_getf dX9_wereBy_77 fl_X9_19 (h5) rfl ?_
              refine sw_iload dX9_wereBy_80 rfl ?_
              refine sw_iald dX9_wereBy_82 (h79) (vp_in_nI (by omega) (by omega)) (nIat (by omega) (ht9 i (by omega))) ?_
              refine sw_iconst (v := (-1)) dX9_wereBy_83 (by decide) ?_
              refine sw_cmpeq (tgt := 106) dX9_wereBy_84 (by decide) (fun hm1 => ?_) (fun hm1 => ?_)
              · refine sw_iconst (v := 0) dX9_wereBy_106 (by decide) ?_
                exact fin 0 (by rw [chg, if_neg (fun q => q.2.elim hz (fun y => by rw [hm1] at y; exact absurd y (by unfold amB; rw [if_pos rfl]; exact Bool.false_ne_true)))]; rfl)
              · obtain ⟨c0, hc0, hce⟩ := (hrg i (by omega)).resolve_left hm1
                refine sw_aload_n dX9_wereBy_87 rfl ?_
                refine sw_getf dX9_wereBy_88 fl_X9_22 (h5) rfl ?_
                refine sw_aload_n dX9_wereBy_91 rfl ?_
                refine sw_getf dX9_wereBy_92 fl_X9_19 (h5) rfl ?_
                refine sw_iload dX9_wereBy_95 rfl ?_
                refine sw_iald dX9_wereBy_97 (h79) (vp_in_nI (by omega) (by omega)) (nIat (by omega) ((ht9 i (by omega)).trans hce)) ?_
                refine sw_zald dX9_wereBy_98 (h80) (vp_in_nI (by omega) (by omega)) (nIat (by omega) (hu4 c0 hc0)) ?_
                refine sw_ifeq (tgt := 106) dX9_wereBy_99 (by decide) (fun hub => ?_) (fun hub => ?_)
                · refine sw_iconst (v := 0) dX9_wereBy_106 (by decide) ?_
                  exact fin 0 (by rw [chg, if_neg (fun q => q.2.elim hz (fun y => bz_eq0.mp hub (by rw [← amB_u hce hc0]; exact y)))]; rfl)
                · refine sw_iconst (v := 1) dX9_wereBy_102 (by decide) ?_
                  refine sw_goto (tgt := 107) dX9_wereBy_103 (by decide) ?_
                  exact fin 1 (by rw [chg, if_pos ⟨hq, Or.inr (by rw [amB_u hce hc0]; exact bz_eq1.mp hub)⟩])
    refine sw_iconst (v := 0) dX9_wereBy_35 (by decide) ?_
    refine sw_istore dX9_wereBy_36 (by decide) rfl ?_
    refine sw_iconst (v := 0) dX9_wereBy_38 (by decide) ?_
    refine sw_istore dX9_wereBy_39 (by decide) rfl ?_
    exact loop w.p 0 (by omega)
  refine sw_aload_n dX9_wereBy_9 rfl ?_
  refine sw_getf dX9_wereBy_10 fl_X9_22 (h5) rfl ?_
  refine sw_iload_n dX9_wereBy_13 rfl ?_
  refine sw_iload_n dX9_wereBy_14 rfl ?_
  refine sw_iconst (v := 1) dX9_wereBy_15 (by decide) ?_
  refine sw_cmpne (tgt := 23) dX9_wereBy_16 (by decide) (fun hs => ?_) (fun hs => ?_)
  · refine sw_iconst (v := 0) dX9_wereBy_23 (by decide) ?_
    exact fin 0 (Or.inl rfl) (by rw [bz_0 hs])
  · refine sw_iconst (v := 1) dX9_wereBy_19 (by decide) ?_
    refine sw_goto (tgt := 24) dX9_wereBy_20 (by decide) ?_
    exact fin 1 (Or.inr rfl) (by rw [bz_1 hs])
theorem n_were {G : SG} {d T : Nat} {h : AH} {s : CS} {g b st z : Int32} (hM : RM h s T) : SW G mX9_were (d + 11) 0 0 0 [.ref 75, .int g, .int b, .int st, .int z] [] h (fun r h' => r = some (.int (c_were s g b st z)) ∧ RM h' s T ∧ SameD h h') := by
  obtain ⟨v, f, tp, H⟩ := hM
  have h5 := H.1.1
  refine sw_aload_n dX9_were_0 rfl ?_
  refine sw_iconst (v := 0) dX9_were_1 (by decide) ?_
  refine sw_puti dX9_were_2 fl_X9_35 (h5) (Nat.le_of_ble_eq_true rfl) (fun g0 z0 e0 o0 => ?_)
  obtain ⟨H, D0⟩ := H.ra e0 z0 o0
  obtain ⟨⟨h5, h6, h77, hS, h83⟩, hR, ⟨t, a, r, htT, hC⟩, ⟨ev, ef⟩, hn, htp⟩ := id H
  have hn8 := hC.2.1
  unfold c_were
  refine sw_iload_n dX9_were_5 rfl ?_
  refine sw_pcs1 dX9_were_6 cs_X9_125 (n_isGate) ?_
  refine sw_ifeq (tgt := 41) dX9_were_9 (by decide) (fun h1 => ?_) (fun h1 => ?_)
  · rw [if_neg (fun q => bz_eq0.mp h1 q.1)]
    refine sw_iconst (v := (-1)) dX9_were_41 (by decide) ?_
    exact sw_ireturn dX9_were_42 rfl rfl (⟨rfl, H.M, D0⟩)
  · have h1 := bz_eq1.mp h1
    refine sw_aload_n dX9_were_12 rfl ?_
    refine sw_iload_n dX9_were_13 rfl ?_
    refine sw_pcv1 dX9_were_14 cv_X9_122 (rc_of h5 rfl) (n_isBack h5 h6 hR.1.2.1 (by omega)) ?_
    refine sw_ifeq (tgt := 41) dX9_were_17 (by decide) (fun h2 => ?_) (fun h2 => ?_)
    · rw [if_neg (fun q => bz_eq0.mp h2 q.2.1)]
      refine sw_iconst (v := (-1)) dX9_were_41 (by decide) ?_
      exact sw_ireturn dX9_were_42 rfl rfl (⟨rfl, H.M, D0⟩)
    · have h2 := bz_eq1.mp h2
      refine sw_iload_n dX9_were_20 rfl ?_
      refine sw_iconst (v := 0) dX9_were_21 (by decide) ?_
      refine sw_iconst (v := 2) dX9_were_22 (by decide) ?_
      refine sw_pcs3 dX9_were_23 cs_X9_39 (n_in) ?_
      refine sw_ifeq (tgt := 41) dX9_were_26 (by decide) (fun h3 => ?_) (fun h3 => ?_)
      · rw [if_neg (fun q => bz_eq0.mp h3 q.2.2)]
        refine sw_iconst (v := (-1)) dX9_were_41 (by decide) ?_
        exact sw_ireturn dX9_were_42 rfl rfl (⟨rfl, H.M, D0⟩)
      · have h3 := bz_eq1.mp h3
        rw [if_pos ⟨h1, h2, h3⟩]
        obtain ⟨gi, hgi, rfl⟩ := ga_of h1
        obtain ⟨j, hj, rfl⟩ := ba_of (by omega) h2
        rw [nI_clamp (by omega), nI_clamp (by omega)]
        refine sw_aload_n dX9_were_29 rfl ?_
        refine sw_iload_n dX9_were_30 rfl ?_
        refine sw_iload_n dX9_were_31 rfl ?_
        refine sw_iload_n dX9_were_32 rfl ?_
        refine sw_iload dX9_were_33 rfl ?_
        refine sw_cv4 dX9_were_35 cv_X9_273 (rc_of h5 rfl) (n_wereBy (gi := gi) (bk := j) h5 h6 hS hR hC hgi hj) (fun rr g1 hr => ?_)
        obtain ⟨rfl, hZ, hS1⟩ := hr
        obtain ⟨H1, D1⟩ := H.z hZ hS1
        refine sw_goto (tgt := 42) dX9_were_38 (by decide) ?_
        exact sw_ireturn dX9_were_42 rfl rfl (⟨rfl, H1.M, D0.tr D1⟩)
theorem n_rough {G : SG} {d T : Nat} {h : AH} {s : CS} {g : Int32} (hM : RM h s T) : SW G mX9_roughest (d + 11) 0 0 0 [.ref 75, .int g, .retAddr 0, .retAddr 0, .retAddr 0, .retAddr 0] [] h (fun r h' => r = some (.int (c_rough s g)) ∧ RM h' s T ∧ SameD h h') := by
  obtain ⟨v, f, tp, H⟩ := hM
  have h5 := H.1.1
  refine sw_aload_n dX9_roughest_0 rfl ?_
  refine sw_iconst (v := 0) dX9_roughest_1 (by decide) ?_
  refine sw_puti dX9_roughest_2 fl_X9_35 (h5) (Nat.le_of_ble_eq_true rfl) (fun g0 z0 e0 o0 => ?_)
  obtain ⟨H, D0⟩ := H.ra e0 z0 o0
  obtain ⟨⟨h5, h6, h77, hS, h83⟩, hR, ⟨t, a, r, htT, hC⟩, ⟨ev, ef⟩, hn, htp⟩ := id H
  have hn8 := hC.2.1
  have hp := szN_rg _ hC.1
  by_cases h1 : 0 ≤ g ∧ g ≤ 3
  · have hf : c_rough s g = (rghF s.1 (wU s.1 g.toNatClampNeg) s.1.n).1 := if_pos h1
    rw [hf]
    obtain ⟨gi, hgi, rfl⟩ := ga_of h1
    rw [nI_clamp (by omega)]
    have loop : ∀ (c i : Nat) (g1 : AH) (x1 x2 : Int32) (v5 : Value), i + c = s.1.n → SameZ g0 g1 → SC g1 → x1 = (rghF s.1 (wU s.1 gi) i).1 → ((x1 = -1 ∧ (rghF s.1 (wU s.1 gi) i).2 = -1) ∨ (¬ x1 = -1 ∧ x2 = (rghF s.1 (wU s.1 gi) i).2)) → SW G mX9_roughest (d + 11) 0 0 12 [.ref 75, .int (nI gi), .int x1, .int x2, .int (nI i), v5] [] g1 (fun r h' => r = some (.int (rghF s.1 (wU s.1 gi) s.1.n).1) ∧ RM h' s T ∧ SameD h h') := by
      intro c
      induction c with
      | zero =>
        intro i g1 x1 x2 v5 hi hZ hS1 hx1 hx2
        have : i = s.1.n := by omega
        subst this
        obtain ⟨H1, D1⟩ := H.z hZ hS1
        have h5 := H1.1.1
        have h6 := H1.1.2.1
        subst hx1
        refine sw_iload dX9_roughest_12 rfl ?_
        refine sw_aload_n dX9_roughest_14 rfl ?_
        refine sw_getf dX9_roughest_15 fl_X9_7 (h5) rfl ?_
        refine sw_iconst (v := 1) dX9_roughest_18 (by decide) ?_
        refine sw_iald dX9_roughest_19 (h6) (vp_in_nI (n := 1) (by omega) (by omega)) (hR.1.2.1) ?_
        refine sw_cmpge (tgt := 78) dX9_roughest_20 (by decide) (fun hc => ?_) (fun hc => ?_)
        · refine sw_iload_n dX9_roughest_78 rfl ?_
          exact sw_ireturn dX9_roughest_79 rfl rfl (⟨rfl, H1.M, D0.tr D1⟩)
        · exact absurd (nI_le (Nat.le_refl _) (by omega)) hc
      | succ c ih =>
        intro i g1 x1 x2 v5 hi hZ hS1 hx1 hx2
        obtain ⟨H1, D1⟩ := H.z hZ hS1
        have h5 := H1.1.1
        have h6 := H1.1.2.1
        have hbit : (wU s.1 gi).testBit i = true ↔ (s.1.gs gi).1 i = 1 := by
          unfold wU
          rw [upsN_bit, Bool.and_eq_true, decide_eq_true_eq, decide_eq_true_eq]
          exact ⟨fun q => q.2, fun q => ⟨by omega, q⟩⟩
        have skip : ∀ (g2 : AH) (v5 : Value), SameZ g0 g2 → SC g2 → ¬ ((wU s.1 gi).testBit i = true ∧ ¬ nI (ndl s.1 (wU s.1 gi) i) ≤ (rghF s.1 (wU s.1 gi) i).2) → SW G mX9_roughest (d + 11) 0 0 72 [.ref 75, .int (nI gi), .int x1, .int x2, .int (nI i), v5] [] g2 (fun r h' => r = some (.int (rghF s.1 (wU s.1 gi) s.1.n).1) ∧ RM h' s T ∧ SameD h h') := by
          intro g2 v5 hZ2 hS2 hno
          have e : rghF s.1 (wU s.1 gi) (i + 1) = rghF s.1 (wU s.1 gi) i := by rw [rghF, if_neg hno]
          refine sw_iinc (v := nI (i + 1)) dX9_roughest_72 rfl (nI_1 i) (by decide) rfl ?_
          refine sw_goto (tgt := 12) dX9_roughest_75 (by decide) ?_
          exact ih (i + 1) g2 x1 x2 v5 (by omega) hZ2 hS2 (by rw [e]; exact hx1) (by rw [e]; exact hx2)
        refine sw_iload dX9_roughest_12 rfl ?_
        refine sw_aload_n dX9_roughest_14 rfl ?_
        refine sw_getf dX9_roughest_15 fl_X9_7 (h5) rfl ?_
        refine sw_iconst (v := 1) dX9_roughest_18 (by decide) ?_
        refine sw_iald dX9_roughest_19 (h6) (vp_in_nI (n := 1) (by omega) (by omega)) (hR.1.2.1) ?_
        refine sw_cmpge (tgt := 78) dX9_roughest_20 (by decide) (fun hc => ?_) (fun hc => ?_)
        · exact absurd hc (nI_ge (by omega) (by omega))
        · refine sw_iload_n dX9_roughest_23 rfl ?_
          refine sw_pcs1 dX9_roughest_24 cs_X9_125 (n_isGate) ?_
          refine sw_ifeq (tgt := 78) dX9_roughest_27 (by decide) (fun hg0 => ?_) (fun hg0 => ?_)
          · exact absurd h1 (bz_eq0.mp hg0)
          · refine sw_aload_n dX9_roughest_30 rfl ?_
            refine sw_iload_n dX9_roughest_31 rfl ?_
            refine sw_iload dX9_roughest_32 rfl ?_
            refine sw_pcv2 dX9_roughest_34 cv_X9_50 (rc_of h5 rfl) (n_stateOf (g := gi) (b := i) h5 h6 hgi (by omega)) ?_
            rw [(hR.2.2.1 gi hgi).1 i (by omega)]
            refine sw_iconst (v := 1) dX9_roughest_37 (by decide) ?_
            refine sw_cmpeq (tgt := 44) dX9_roughest_38 (by decide) (fun hs1 => ?_) (fun hs1 => ?_)
            · have hb := hbit.mpr hs1
              refine sw_aload_n dX9_roughest_44 rfl ?_
              refine sw_iload_n dX9_roughest_45 rfl ?_
              refine sw_iload dX9_roughest_46 rfl ?_
              refine sw_iconst (v := 0) dX9_roughest_48 (by decide) ?_
              refine sw_iconst (v := 1) dX9_roughest_49 (by decide) ?_
              refine sw_cv4 dX9_roughest_50 cv_X9_273 (rc_of h5 rfl) (n_wereBy (gi := gi) (bk := i) (st := 0) (z := 1) h5 h6 hS1 hR hC hgi (by omega)) (fun rr g2 hr => ?_)
              obtain ⟨rfl, hZ2, hS2⟩ := hr
              have en : chg (wT s.1 (wU s.1 gi)) (wT s.1 (thn (wU s.1 gi) i 0)) (thn (wU s.1 gi) i 0) 1 s.1.p = ndl s.1 (wU s.1 gi) i := by
                unfold ndl thn
                rw [if_neg (show ¬ (0 : Int32) = 1 by decide)]
              rw [en]
              have hle : ndl s.1 (wU s.1 gi) i ≤ s.1.p := chg_le _ _ _ _ _
              have take : ¬ nI (ndl s.1 (wU s.1 gi) i) ≤ (rghF s.1 (wU s.1 gi) i).2 → ∀ v5 : Value, SW G mX9_roughest (d + 11) 0 0 66 [.ref 75, .int (nI gi), .int x1, .int x2, .int (nI i), .int (nI (ndl s.1 (wU s.1 gi) i))] [] g2 (fun r h' => r = some (.int (rghF s.1 (wU s.1 gi) s.1.n).1) ∧ RM h' s T ∧ SameD h h') := by
                intro hgt v5
                have e : rghF s.1 (wU s.1 gi) (i + 1) = (nI i, nI (ndl s.1 (wU s.1 gi) i)) := by rw [rghF, if_pos ⟨hb, hgt⟩]
                refine sw_iload dX9_roughest_66 rfl ?_
                refine sw_istore_n dX9_roughest_68 (by decide) rfl ?_
                refine sw_iload dX9_roughest_69 rfl ?_
                refine sw_istore_n dX9_roughest_71 (by decide) rfl ?_
                refine sw_iinc (v := nI (i + 1)) dX9_roughest_72 rfl (nI_1 i) (by decide) rfl ?_
                refine sw_goto (tgt := 12) dX9_roughest_75 (by decide) ?_
                exact ih (i + 1) g2 _ _ _ (by omega) (hZ.tr hZ2) hS2 (by rw [e]) (by rw [e]; exact Or.inr ⟨nI_ne_m1 (by omega), rfl⟩)
              refine sw_istore dX9_roughest_53 (by decide) rfl ?_
              refine sw_iload_n dX9_roughest_55 rfl ?_
              refine sw_iconst (v := (-1)) dX9_roughest_56 (by decide) ?_
              refine sw_cmpeq (tgt := 66) dX9_roughest_57 (by decide) (fun hm1 => ?_) (fun hm1 => ?_)
              · rcases hx2 with ⟨-, q⟩ | ⟨q, -⟩
                · refine take ?_ .null
                  rw [q]
                  intro hle'
                  rw [Int32.le_iff_toInt_le, nI_toInt (by omega)] at hle'
                  have e1 : (-1 : Int32).toInt = -1 := rfl
                  omega
                · exact absurd hm1 q
              · rcases hx2 with ⟨q, -⟩ | ⟨-, q⟩
                · exact absurd q hm1
                · refine sw_iload dX9_roughest_60 rfl ?_
                  refine sw_iload_n dX9_roughest_62 rfl ?_
                  refine sw_cmple (tgt := 72) dX9_roughest_63 (by decide) (fun hl => ?_) (fun hl => ?_)
                  · exact skip g2 _ (hZ.tr hZ2) hS2 (fun y => y.2 (by rw [← q]; exact hl))
                  · exact take (by rw [← q]; exact hl) .null
            · refine sw_goto (tgt := 72) dX9_roughest_41 (by decide) ?_
              exact skip g1 v5 hZ hS1 (fun y => hs1 (hbit.mp y.1))
    refine sw_iconst (v := (-1)) dX9_roughest_5 (by decide) ?_
    refine sw_istore_n dX9_roughest_6 (by decide) rfl ?_
    refine sw_iconst (v := 0) dX9_roughest_7 (by decide) ?_
    refine sw_istore_n dX9_roughest_8 (by decide) rfl ?_
    refine sw_iconst (v := 0) dX9_roughest_9 (by decide) ?_
    refine sw_istore dX9_roughest_10 (by decide) rfl ?_
    exact loop s.1.n 0 g0 (-1) 0 _ (by omega) SameZ.rf hS rfl (Or.inl ⟨rfl, rfl⟩)
  · have hf : c_rough s g = -1 := if_neg h1
    rw [hf]
    refine sw_iconst (v := (-1)) dX9_roughest_5 (by decide) ?_
    refine sw_istore_n dX9_roughest_6 (by decide) rfl ?_
    refine sw_iconst (v := 0) dX9_roughest_7 (by decide) ?_
    refine sw_istore_n dX9_roughest_8 (by decide) rfl ?_
    refine sw_iconst (v := 0) dX9_roughest_9 (by decide) ?_
    refine sw_istore dX9_roughest_10 (by decide) rfl ?_
    refine sw_iload dX9_roughest_12 rfl ?_
    refine sw_aload_n dX9_roughest_14 rfl ?_
    refine sw_getf dX9_roughest_15 fl_X9_7 (h5) rfl ?_
    refine sw_iconst (v := 1) dX9_roughest_18 (by decide) ?_
    refine sw_iald dX9_roughest_19 (h6) (vp_in_nI (n := 1) (by omega) (by omega)) (hR.1.2.1) ?_
    refine sw_cmpge (tgt := 78) dX9_roughest_20 (by decide) (fun hq => ?_) (fun hq => ?_)
    · refine sw_iload_n dX9_roughest_78 rfl ?_
      exact sw_ireturn dX9_roughest_79 rfl rfl (⟨rfl, H.M, D0⟩)
    · refine sw_iload_n dX9_roughest_23 rfl ?_
      refine sw_pcs1 dX9_roughest_24 cs_X9_125 (n_isGate) ?_
      refine sw_ifeq (tgt := 78) dX9_roughest_27 (by decide) (fun hg0 => ?_) (fun hg0 => ?_)
      · refine sw_iload_n dX9_roughest_78 rfl ?_
        exact sw_ireturn dX9_roughest_79 rfl rfl (⟨rfl, H.M, D0⟩)
      · exact absurd (bz_eq1.mp hg0) h1
