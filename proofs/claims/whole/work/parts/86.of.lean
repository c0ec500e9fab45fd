/-! of, that may throw -/
def XO (G : SG) (h : AH) (N : Prop) : String → State → State → Prop := fun E st t => E = NSE ∧ N ∧ sg_I G h t.heap ∧ va_F (sg_A G) st t
def EO (G : SG) (h : AH) (N : Prop) (P : Option Value → AH → Prop) : EX := (fun c => ∀ x ∈ c.exceptionTable.toList, False, fun below args s mc ms => vx_MQ below (sg_Q G P) (XO G h N) args s mc ms (sg_A G))
theorem sg_E.zq {G : SG} {U : State} (h : sg_E G U) : vx_Zq Bundle.tN "UNASSIGNED_STACK" Bundle.steD (sg_A G) U U.heap ∧ vx_Zq Bundle.tN "SUPPRESSED_SENTINEL" Bundle.listD (sg_A G) U U.heap := h.2.2.2.2.2.2.2.2.2.2.2.1
theorem sg_I.grow {G : SG} {h : AH} {H H1 : Heap} (hal : sg_al G = false) (hI : sg_I G h H) (f1 : H.size ≤ H1.size) (f2 : ∀ x : Nat, x < H.size → H1[x]? = H[x]?) : sg_I G h H1 :=
  ⟨hI.1.kept (fun k q hk => f2 q.1 (hI.1 k q hk).lt), hI.2.1, Nat.le_trans hI.2.2.1 f1, fun q => by rw [hal] at q; cases q⟩
theorem ox_throw {G : SG} {d pc is sa : Nat} {text : String} {L : List Value} {h : AH} {N : Prop} {P : Option Value → AH → Prop} (hal : sg_al G = false) (hN : N) (hq : (RX8, is, text, sa) ∈ ro_sr)
    (d0 : decode cX8_of pc = .ok (.new 168, 3)) (d3 : decode cX8_of (pc + 3) = .ok (.dup, 1)) (d4 : decode cX8_of (pc + 4) = .ok (.ldc is, 2)) (d6 : decode cX8_of (pc + 6) = .ok (.invokespecial 172, 3)) (d9 : decode cX8_of (pc + 9) = .ok (.athrow, 1)) : SX G mX8_of (d + 6) 1 6 pc L [] h (EO G h N P) := by
  intro p l e R s m args below meth c H locs ls cells slots mc ms hX C h1 h2 h3 h4 hI hS hL
  have hfr := C.fr
  have hlo := C.lo
  refine ns_make (own := RX8) (ik := 168) (is := is) (ic := 172) (sa := sg_ad G sa) (A := sg_A G) C.x C.b C.nt C.own (C.ts _ w_679) (C.ts _ w_21) (C.E.sr _ hq) (ns_words C.ts) ns_ot C.E.zq.1 C.E.zq.2 hS (hL.1.trans C.ml.symm) d0 d3 d4 d6 (by omega) (by show 0 + 82 ≤ _; omega) (by omega) (by omega) (fun q H1 ce f1 f2 hc hv hcl => ?_)
  refine vx_athrow C.x C.b d9 (vx_out (mc := mc) (ms := ms) (fun x hx => (hX x hx).elim) C.lk hc hv hcl (fun t ht _ => ?_) hS.2.2 (by omega) (by omega))
  refine ⟨rfl, hN, by rw [ht]; exact hI.grow hal f1 f2, by rw [ht]; exact Nat.le_trans hS.1 f1, fun z z1 z2 => ?_⟩
  rw [ht, f2 z (Nat.lt_of_lt_of_le z1 hS.1)]
  exact hS.2.1 z z1 z2
theorem x_lt10' {x : Int32} (h : ¬ (0 ≤ x - 10 ∧ x - 10 ≤ 3)) : ¬ (10 ≤ x ∧ (0 ≤ x - 10 ∧ x - 10 ≤ 3)) := fun q => h q.2
theorem o_norm {G : SG} {d b0 q0 : Nat} {h : AH} {s : CS} {b x v : Int32} (h0 : h[0]? = some (.inr (6, [.ref 1, .ref 3, .ref b0, .ref q0, .ref 73]))) (hW : WorldAt h b0 s.1) (hb : 0 ≤ b ∧ b < nI s.1.n) (hv : c_of s b x = some v) : SW G mX8_of (d + 6) 0 0 21 [.ref 0, .int b, .int x] [] h (fun r h' => c_of s b x = r.bind (fun w => match w with | .int i => some i | _ => none) ∧ r = some (.int v) ∧ h' = h) := by
  have hn8 := hW.2.2.2.2.1
  obtain ⟨j, hj, rfl⟩ := ba_of (by omega) hb
  have hv0 := hv
  unfold c_of at hv
  rw [if_pos hb, nI_clamp (show j < 2 ^ 31 by omega)] at hv
  have tbl : ¬ (10 ≤ x ∧ (0 ≤ x - 10 ∧ x - 10 ≤ 3)) → SW G mX8_of (d + 6) 0 0 55 [.ref 0, .int (nI j), .int x] [] h (fun r h' => c_of s (nI j) x = r.bind (fun w => match w with | .int i => some i | _ => none) ∧ r = some (.int v) ∧ h' = h) := by
    intro hg
    rw [if_neg hg] at hv
    refine sw_iload_n dX8_of_55 rfl ?_
    by_cases x0 : x = 0
    · rw [if_pos x0] at hv
      subst x0
      have hv := Option.some.inj hv
      refine sw_tsIn (tgt := 88) dX8_of_56 (by decide) (by decide) (by rfl) (by decide) ?_
      refine sw_aload_n dX8_of_88 rfl ?_
      refine sw_getf dX8_of_89 fl_X8_28 (h0) rfl ?_
      refine sw_getf dX8_of_92 fl_X8_178 (hW.1) rfl ?_
      refine sw_iload_n dX8_of_95 rfl ?_
      refine sw_iald dX8_of_96 (hW.2.1) (vp_in_nI (by omega) (by omega)) (nIat (by omega) hv) ?_
      exact sw_ireturn dX8_of_97 rfl rfl (⟨hv0, rfl, rfl⟩)
    · rw [if_neg x0] at hv
      by_cases x1 : x = 1
      · rw [if_pos x1] at hv
        subst x1
        have hv := Option.some.inj hv
        refine sw_tsIn (tgt := 98) dX8_of_56 (by decide) (by decide) (by rfl) (by decide) ?_
        refine sw_aload_n dX8_of_98 rfl ?_
        refine sw_getf dX8_of_99 fl_X8_28 (h0) rfl ?_
        refine sw_getf dX8_of_102 fl_X8_109 (hW.1) rfl ?_
        refine sw_iload_n dX8_of_105 rfl ?_
        refine sw_iald dX8_of_106 (hW.2.2.1) (vp_in_nI (by omega) (by omega)) (nIat (by omega) hv) ?_
        exact sw_ireturn dX8_of_107 rfl rfl (⟨hv0, rfl, rfl⟩)
      · rw [if_neg x1] at hv
        by_cases x2 : x = 2
        · rw [if_pos x2] at hv
          subst x2
          have hv := Option.some.inj hv
          refine sw_tsIn (tgt := 108) dX8_of_56 (by decide) (by decide) (by rfl) (by decide) ?_
          refine sw_aload_n dX8_of_108 rfl ?_
          refine sw_getf dX8_of_109 fl_X8_28 (h0) rfl ?_
          refine sw_getf dX8_of_112 fl_X8_178 (hW.1) rfl ?_
          refine sw_iload_n dX8_of_115 rfl ?_
          refine sw_iald dX8_of_116 (hW.2.1) (vp_in_nI (by omega) (by omega)) (nIat (by omega) (rfl : s.1.ks j = s.1.ks j)) ?_
          refine sw_aload_n dX8_of_117 rfl ?_
          refine sw_getf dX8_of_118 fl_X8_28 (h0) rfl ?_
          refine sw_getf dX8_of_121 fl_X8_82 (hW.1) rfl ?_
          refine sw_pcs2 dX8_of_124 cs_X8_181 (m_offsetOf) ?_
          exact sw_ireturn dX8_of_127 rfl rfl (⟨by rw [hv]; exact hv0, by rw [hv], rfl⟩)
        · rw [if_neg x2] at hv
          by_cases x3 : x = 3
          · rw [if_pos x3] at hv
            subst x3
            have hv := Option.some.inj hv
            refine sw_tsIn (tgt := 128) dX8_of_56 (by decide) (by decide) (by rfl) (by decide) ?_
            refine sw_aload_n dX8_of_128 rfl ?_
            refine sw_getf dX8_of_129 fl_X8_28 (h0) rfl ?_
            refine sw_getf dX8_of_132 fl_X8_178 (hW.1) rfl ?_
            refine sw_iload_n dX8_of_135 rfl ?_
            refine sw_iald dX8_of_136 (hW.2.1) (vp_in_nI (by omega) (by omega)) (nIat (by omega) (rfl : s.1.ks j = s.1.ks j)) ?_
            refine sw_aload_n dX8_of_137 rfl ?_
            refine sw_getf dX8_of_138 fl_X8_28 (h0) rfl ?_
            refine sw_getf dX8_of_141 fl_X8_82 (hW.1) rfl ?_
            refine sw_pcs2 dX8_of_144 cs_X8_184 (m_skipOf) ?_
            exact sw_ireturn dX8_of_147 rfl rfl (⟨by rw [hv]; exact hv0, by rw [hv], rfl⟩)
          · rw [if_neg x3] at hv
            cases hv
  refine sw_iload_n dX8_of_21 rfl ?_
  refine sw_bipush (v := 10) dX8_of_22 (by decide) ?_
  refine sw_cmplt (tgt := 55) dX8_of_24 (by decide) (fun h10 => ?_) (fun h10 => ?_)
  · refine tbl (fun q => ?_)
    have a := Int32.le_iff_toInt_le.mp q.1
    have b := Int32.lt_iff_toInt_lt.mp h10
    omega
  · have h10 : 10 ≤ x := Int32.not_lt.mp h10
    refine sw_iload_n dX8_of_27 rfl ?_
    refine sw_bipush (v := 10) dX8_of_28 (by decide) ?_
    refine sw_isub dX8_of_30 ?_
    refine sw_pcs1 dX8_of_31 cs_X8_112 (m_isGate) ?_
    refine sw_ifeq (tgt := 55) dX8_of_34 (by decide) (fun hg => ?_) (fun hg => ?_)
    · exact tbl (x_lt10' (bz_eq0.mp hg))
    · have hg := bz_eq1.mp hg
      rw [if_pos ⟨h10, hg⟩] at hv
      have hv := Option.some.inj hv
      obtain ⟨gi, hgi, hge⟩ := ga_of hg
      rw [hge, nI_clamp (by omega)] at hv
      obtain ⟨fa, ha1, ha2⟩ := hW.2.2.2.1
      have hG := hW.2.2.2.2.2 gi hgi
      refine sw_aload_n dX8_of_37 rfl ?_
      refine sw_getf dX8_of_38 fl_X8_28 (h0) rfl ?_
      refine sw_getf dX8_of_41 fl_X8_147 (hW.1) rfl ?_
      refine sw_iload_n dX8_of_44 rfl ?_
      refine sw_bipush (v := 10) dX8_of_45 (by decide) ?_
      refine sw_isub dX8_of_47 ?_
      rw [hge]
      refine sw_aald dX8_of_48 (ha1) (vp_in_nI (by omega) (by omega)) (nIat (by omega) (ha2 gi hgi)) ?_
      refine sw_getf dX8_of_49 fl_X8_175 (hG.1) rfl ?_
      refine sw_iload_n dX8_of_52 rfl ?_
      refine sw_iald dX8_of_53 (hG.2.1) (vp_in_nI (by omega) (by omega)) (nIat (by omega) hv) ?_
      exact sw_ireturn dX8_of_54 rfl rfl (⟨hv0, rfl, rfl⟩)
