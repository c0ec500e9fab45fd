/-! a text, by the reference -/
def StP (h : AH) (ra fa : Int32) (tc : Nat → Int32) (n T : Nat) (sm : Int32) (w : WS) (R : Int32 × Nat × (Nat → Int32) × K3) (r : Option Value) (h' : AH) : Prop :=
  (R.1 = 0 ∧ r = some (.int 1) ∧ ∃ T' va pl gt f', TX h' ra fa n T' 0 va pl sm gt ∧ T < T' ∧ T' ≤ n ∧ R.2.2.2 = tok tc n T' ∧ RoAt h' f' ∧ MR f' (prfW w R.2.1 R.2.2.1) ∧ SC h' ∧ SameV h h') ∨ (¬ R.1 = 0 ∧ r = some (.int 0) ∧ (∃ T' va pl gt, TX h' ra fa n T' R.1 va pl sm gt) ∧ SameO h h')
theorem rd_some {tc nm : Nat → Int32} {n vb v L : Nat} {w : WS} {K : K3} {x0 : Int32} (hv : vrb tc K 8 0 = some v) (hx : x0 = if v = 1 ∧ 8 ≤ w.n then flF 0 3 K.2.1 else 0) (hL : sbl (7 + 2 * v) = L) : rdF tc n w 0 vb K nm = (finF (rlF tc n w v L 0 (x0, advK tc n K, nm)), v, (rlF tc n w v L 0 (x0, advK tc n K, nm)).2.2, advK tc n (rlF tc n w v L 0 (x0, advK tc n K, nm)).2.1) := by
  unfold rdF
  rw [hv]
  simp only []
  rw [hL, hx]
  rfl
theorem rd_none {tc nm : Nat → Int32} {n vb : Nat} {w : WS} {K : K3} (hv : vrb tc K 8 0 = none) (hP : K.2.1 ≤ 400) : (rdF tc n w 0 vb K nm).1 = flF 0 1 K.2.1 := by
  have hne := fl_ne (s := 1) (by omega) (by omega) hP
  unfold rdF
  rw [hv]
  show finF (rlF tc n w vb (sbl (7 + 2 * vb)) 0 (flF 0 1 K.2.1, K, nm)) = _
  rw [rl_n (x := (flF 0 1 K.2.1, K, nm)) hne]
  exact finF_ne (z := (flF 0 1 K.2.1, K, nm)) hne
theorem StP.of {h g h' : AH} {tc nm : Nat → Int32} {ra fa sm : Int32} {n T vb v L : Nat} {w : WS} {x0 : Int32} {r : Option Value} (hv : vrb tc (tok tc n T) 8 0 = some v) (hx : x0 = if v = 1 ∧ 8 ≤ w.n then flF 0 3 (tok tc n T).2.1 else 0) (hL : sbl (7 + 2 * v) = L) (hTn : T ≤ n) (hO : SameO h g) (H : RdP g tc ra fa n (tok tc n T).2.2 sm w v (rlF tc n w v L 0 (x0, tok tc n (tok tc n T).2.2, nm)) r h') : StP h ra fa tc n T sm w (rdF tc n w 0 vb (tok tc n T) nm) r h' := by
  rw [rd_some hv hx hL]
  have hrg := tok_rg (tc := tc) hTn
  rcases H with ⟨a, b, T', va, pl, gt, f', c1, c2, c3, c4, c5, c6, c7, c8⟩ | ⟨a, b, ⟨T', va, pl, gt, c1⟩, c2⟩
  · exact Or.inl ⟨a, b, T', va, pl, gt, f', c1, by omega, c3, c4, c5, c6, c7, hO.V.tr c8⟩
  · exact Or.inr ⟨a, b, ⟨T', va, pl, gt, c1⟩, hO.tr c2⟩
theorem RdP.b {h : AH} {tc : Nat → Int32} {ra fa : Int32} {n T : Nat} {sm : Int32} {w : WS} {v : Nat} {z : Z3} {r : Option Value} {h' : AH} (H : RdP h tc ra fa n T sm w v z r h') : r = some (.int 1) ∨ r = some (.int 0) := H.elim (fun q => Or.inl q.2.1) (fun q => Or.inr q.2.1)
theorem vrb_s {tc : Nat → Int32} {K : K3} {v : Nat} (hv : v < 8) (h1 : ∀ u, u < v → ¬ isWd tc K (6 + 2 * u) = true) (h2 : isWd tc K (6 + 2 * v) = true) : vrb tc K 8 0 = some v := by
  have : ∀ c u, u + c = 8 → u ≤ v → vrb tc K c u = some v := by
    intro c
    induction c with
    | zero => intro u a b; omega
    | succ c ih =>
      intro u a b
      unfold vrb
      by_cases e : u = v
      · subst e; rw [if_pos h2]
      · rw [if_neg (h1 u (by omega))]; exact ih (u + 1) (by omega) (by omega)
  exact this 8 0 rfl (by omega)
theorem vrb_n {tc : Nat → Int32} {K : K3} (h1 : ∀ u, u < 8 → ¬ isWd tc K (6 + 2 * u) = true) : vrb tc K 8 0 = none := by
  have : ∀ c u, u + c = 8 → vrb tc K c u = none := by
    intro c
    induction c with
    | zero => intro u a; rfl
    | succ c ih =>
      intro u a
      unfold vrb
      rw [if_neg (h1 u (by omega))]; exact ih (u + 1) (by omega)
  exact this 8 0 rfl
theorem n_readStatement {vb : Nat} {G : SG} {d n T t a r : Nat} {h : AH} {tc f nm : Nat → Int32} {w : WS} {ra fa va pl sm gt : Int32} (h5 : TX h ra fa n T 0 va pl sm gt) (hT : TpAt h n tc) (hTn : T ≤ n) (hn : n ≤ 400) (h6 : RoAt h f) (hS : SC h) (hR : MR f w) (hC : cIn w t a r) (ht : t + 999 < 2 ^ 30) : SW G mX9_readStatement (d + 9) 0 0 0 [.ref 75, .retAddr 0, .retAddr 0, .retAddr 0] [] h (StP h ra fa tc n T sm w (rdF tc n w 0 vb (tok tc n T) nm)) := by
  have hK := tok_K (tc := tc) (n := n) (T := T)
  have hrg := tok_rg (tc := tc) hTn
  have hPr := tkP_rg (tp := tc) hTn
  refine sw_aload_n dX9_readStatement_0 rfl ?_
  refine sw_cv0 dX9_readStatement_1 cv_X9_178 (rc_of h5 rfl) (n_isWord h5 hT hTn hn) (fun rr g1 hr => ?_)
  obtain ⟨rfl, h5, hO⟩ := hr
  refine sw_ifne (tgt := 17) dX9_readStatement_4 (by decide) (fun hw => ?_) (fun hw => ?_)
  · have hw := bz_eq1.mp hw
    obtain ⟨te, tl, ta⟩ := tok_2 hw
    refine sw_aload_n dX9_readStatement_17 rfl ?_
    refine sw_cv0 dX9_readStatement_18 cv_X9_185 (rc_of h5 rfl) (n_readWord h5 (hT.O hO) hPr.2 hn) (fun rr g2 hr => ?_)
    obtain ⟨rfl, h5, hO2⟩ := hr
    have hO2 := hO.tr hO2
    have iw : ∀ k ∈ wIx, wdF tc (exB tc n 2 (n - tkP tc n T) (tkP tc n T) - tkP tc n T) (tkP tc n T) 0 0 = lN (cst k) ↔ isWd tc (tok tc n T) k = true := by
      intro k hk
      rw [te]
      exact wd_is hk tl ta
    have e22 : (tok tc n T).2.2 = exB tc n 2 (n - tkP tc n T) (tkP tc n T) := by rw [te]
    generalize wdF tc (exB tc n 2 (n - tkP tc n T) (tkP tc n T) - tkP tc n T) (tkP tc n T) 0 0 = wx at iw
    rw [← e22, ← hK.1] at h5
    have hT2 := hT.O hO2
    have h62 := h6.O hO2
    have hS2 := hS.O hO2
    have e8 := c_all.2.2.2.2
    refine sw_lstore_n dX9_readStatement_21 (by decide) rfl ?_
    refine sw_aload_n dX9_readStatement_22 rfl ?_
    refine sw_getf dX9_readStatement_23 fl_X9_163 (h5) rfl ?_
    refine sw_istore_n dX9_readStatement_26 (by decide) rfl ?_
    refine sw_lload_n dX9_readStatement_27 rfl ?_
    refine sw_ldc2 dX9_readStatement_28 w_1009 ?_
    refine sw_lcmp dX9_readStatement_31 ?_
    refine sw_ifne (tgt := 40) dX9_readStatement_32 (by decide) (fun q0 => ?_) (fun q0 => ?_)
    · have q0 : ¬ isWd tc (tok tc n T) 6 = true := fun z => q0 (lg0.mpr (e8.1 ▸ (iw 6 (by decide)).mpr z))
      refine sw_lload_n dX9_readStatement_40 rfl ?_
      refine sw_ldc2 dX9_readStatement_41 w_1022 ?_
      refine sw_lcmp dX9_readStatement_44 ?_
      refine sw_ifne (tgt := 54) dX9_readStatement_45 (by decide) (fun q1 => ?_) (fun q1 => ?_)
      · have q1 : ¬ isWd tc (tok tc n T) 8 = true := fun z => q1 (lg0.mpr (e8.2.1 ▸ (iw 8 (by decide)).mpr z))
        refine sw_lload_n dX9_readStatement_54 rfl ?_
        refine sw_ldc2 dX9_readStatement_55 w_1027 ?_
        refine sw_lcmp dX9_readStatement_58 ?_
        refine sw_ifne (tgt := 67) dX9_readStatement_59 (by decide) (fun q2 => ?_) (fun q2 => ?_)
        · have q2 : ¬ isWd tc (tok tc n T) 10 = true := fun z => q2 (lg0.mpr (e8.2.2.1 ▸ (iw 10 (by decide)).mpr z))
          refine sw_lload_n dX9_readStatement_67 rfl ?_
          refine sw_ldc2 dX9_readStatement_68 w_1032 ?_
          refine sw_lcmp dX9_readStatement_71 ?_
          refine sw_ifne (tgt := 80) dX9_readStatement_72 (by decide) (fun q3 => ?_) (fun q3 => ?_)
          · have q3 : ¬ isWd tc (tok tc n T) 12 = true := fun z => q3 (lg0.mpr (e8.2.2.2.1 ▸ (iw 12 (by decide)).mpr z))
            refine sw_lload_n dX9_readStatement_80 rfl ?_
            refine sw_ldc2 dX9_readStatement_81 w_1045 ?_
            refine sw_lcmp dX9_readStatement_84 ?_
            refine sw_ifne (tgt := 93) dX9_readStatement_85 (by decide) (fun q4 => ?_) (fun q4 => ?_)
            · have q4 : ¬ isWd tc (tok tc n T) 14 = true := fun z => q4 (lg0.mpr (e8.2.2.2.2.1 ▸ (iw 14 (by decide)).mpr z))
              refine sw_lload_n dX9_readStatement_93 rfl ?_
              refine sw_ldc2 dX9_readStatement_94 w_1050 ?_
              refine sw_lcmp dX9_readStatement_97 ?_
              refine sw_ifeq (tgt := 109) dX9_readStatement_98 (by decide) (fun q5 => ?_) (fun q5 => ?_)
              · have q5' := (iw 16 (by decide)).mp (e8.2.2.2.2.2.1 ▸ lg0.mp q5)
                refine sw_aload_n dX9_readStatement_109 rfl ?_
                refine sw_lload_n dX9_readStatement_110 rfl ?_
                refine sw_ldc2 dX9_readStatement_111 w_1050 ?_
                refine sw_lcmp dX9_readStatement_114 ?_
                refine sw_ifne (tgt := 122) dX9_readStatement_115 (by decide) (fun q5b => ?_) (fun q5b => ?_)
                · exact absurd q5 q5b
                · refine sw_iconst (v := 0) dX9_readStatement_118 (by decide) ?_
                  refine sw_goto (tgt := 123) dX9_readStatement_119 (by decide) ?_
                  refine sw_cv1 dX9_readStatement_123 cv_X9_235 (rc_of h5 rfl) (n_readHold0 (nm := nm) h5 hT2 hrg.2.2 hn h62 hS2 hR hC ht) (fun rr g3 hr => ?_)
                  rcases hr.b with rfl | rfl <;> exact sw_ireturn dX9_readStatement_126 rfl rfl (StP.of (vrb_s (v := 5) (by omega) (fun u hu => by rcases (show u = 0 ∨ u = 1 ∨ u = 2 ∨ u = 3 ∨ u = 4 by omega) with rfl | rfl | rfl | rfl | rfl <;> assumption) q5') (by rw [if_neg (fun q => absurd q.1 (by decide))]) (by decide) hTn hO2 hr)
              · have q5 : ¬ isWd tc (tok tc n T) 16 = true := fun z => q5 (lg0.mpr (e8.2.2.2.2.2.1 ▸ (iw 16 (by decide)).mpr z))
                refine sw_lload_n dX9_readStatement_101 rfl ?_
                refine sw_ldc2 dX9_readStatement_102 w_1051 ?_
                refine sw_lcmp dX9_readStatement_105 ?_
                refine sw_ifne (tgt := 127) dX9_readStatement_106 (by decide) (fun q6 => ?_) (fun q6 => ?_)
                · have q6 : ¬ isWd tc (tok tc n T) 18 = true := fun z => q6 (lg0.mpr (e8.2.2.2.2.2.2.1 ▸ (iw 18 (by decide)).mpr z))
                  refine sw_lload_n dX9_readStatement_127 rfl ?_
                  refine sw_ldc2 dX9_readStatement_128 w_1056 ?_
                  refine sw_lcmp dX9_readStatement_131 ?_
                  refine sw_ifne (tgt := 142) dX9_readStatement_132 (by decide) (fun q7 => ?_) (fun q7 => ?_)
                  · have q7 : ¬ isWd tc (tok tc n T) 20 = true := fun z => q7 (lg0.mpr (e8.2.2.2.2.2.2.2 ▸ (iw 20 (by decide)).mpr z))
                    have hv : vrb tc (tok tc n T) 8 0 = none := vrb_n (fun u hu => by rcases (show u = 0 ∨ u = 1 ∨ u = 2 ∨ u = 3 ∨ u = 4 ∨ u = 5 ∨ u = 6 ∨ u = 7 by omega) with rfl | rfl | rfl | rfl | rfl | rfl | rfl | rfl <;> assumption)
                    have ee := rd_none (n := n) (w := w) (vb := vb) (nm := nm) hv (by omega)
                    refine sw_aload_n dX9_readStatement_142 rfl ?_
                    refine sw_iconst (v := 1) dX9_readStatement_143 (by decide) ?_
                    refine sw_iload_n dX9_readStatement_144 rfl ?_
                    refine sw_cv2 dX9_readStatement_145 cv_X9_172 (rc_of h5 rfl) (n_fails (k := 1) (w := (tok tc n T).2.1) h5) (fun rr g3 hr => ?_)
                    obtain ⟨rfl, h5, hO3⟩ := hr
                    exact sw_ireturn dX9_readStatement_148 rfl rfl (Or.inr ⟨by rw [ee]; exact fl_ne (by omega) (by omega) (by omega), rfl, ⟨_, _, _, _, by rw [ee]; exact h5⟩, hO2.tr hO3⟩)
                  · have q7 := (iw 20 (by decide)).mp (e8.2.2.2.2.2.2.2 ▸ lg0.mp q7)
                    refine sw_aload_n dX9_readStatement_135 rfl ?_
                    refine sw_cv0 dX9_readStatement_136 cv_X9_240 (rc_of h5 rfl) (n_readPack (nm := nm) h5 hT2 hrg.2.2 hn h62 hS2 hR hC ht) (fun rr g3 hr => ?_)
                    rcases hr.b with rfl | rfl <;> exact sw_goto (tgt := 148) dX9_readStatement_139 (by decide) (sw_ireturn dX9_readStatement_148 rfl rfl (StP.of (vrb_s (v := 7) (by omega) (fun u hu => by rcases (show u = 0 ∨ u = 1 ∨ u = 2 ∨ u = 3 ∨ u = 4 ∨ u = 5 ∨ u = 6 by omega) with rfl | rfl | rfl | rfl | rfl | rfl | rfl <;> assumption) q7) (by rw [if_neg (fun q => absurd q.1 (by decide))]) (by decide) hTn hO2 hr))
                · have q6 := (iw 18 (by decide)).mp (e8.2.2.2.2.2.2.1 ▸ lg0.mp q6)
                  refine sw_aload_n dX9_readStatement_109 rfl ?_
                  refine sw_lload_n dX9_readStatement_110 rfl ?_
                  refine sw_ldc2 dX9_readStatement_111 w_1050 ?_
                  refine sw_lcmp dX9_readStatement_114 ?_
                  refine sw_ifne (tgt := 122) dX9_readStatement_115 (by decide) (fun q5b => ?_) (fun q5b => ?_)
                  · refine sw_iconst (v := 1) dX9_readStatement_122 (by decide) ?_
                    refine sw_cv1 dX9_readStatement_123 cv_X9_235 (rc_of h5 rfl) (n_readHold1 (nm := nm) h5 hT2 hrg.2.2 hn h62 hS2 hR hC ht) (fun rr g3 hr => ?_)
                    rcases hr.b with rfl | rfl <;> exact sw_ireturn dX9_readStatement_126 rfl rfl (StP.of (vrb_s (v := 6) (by omega) (fun u hu => by rcases (show u = 0 ∨ u = 1 ∨ u = 2 ∨ u = 3 ∨ u = 4 ∨ u = 5 by omega) with rfl | rfl | rfl | rfl | rfl | rfl <;> assumption) q6) (by rw [if_neg (fun q => absurd q.1 (by decide))]) (by decide) hTn hO2 hr)
                  · exact absurd ((iw 16 (by decide)).mp (e8.2.2.2.2.2.1 ▸ lg0.mp q5b)) q5
            · have q4 := (iw 14 (by decide)).mp (e8.2.2.2.2.1 ▸ lg0.mp q4)
              refine sw_aload_n dX9_readStatement_88 rfl ?_
              refine sw_cv0 dX9_readStatement_89 cv_X9_228 (rc_of h5 rfl) (n_readTick (nm := nm) h5 hT2 hrg.2.2 hn h62 hS2 hR hC ht) (fun rr g3 hr => ?_)
              rcases hr.b with rfl | rfl <;> exact sw_ireturn dX9_readStatement_92 rfl rfl (StP.of (vrb_s (v := 4) (by omega) (fun u hu => by rcases (show u = 0 ∨ u = 1 ∨ u = 2 ∨ u = 3 by omega) with rfl | rfl | rfl | rfl <;> assumption) q4) (by rw [if_neg (fun q => absurd q.1 (by decide))]) (by decide) hTn hO2 hr)
          · have q3 := (iw 12 (by decide)).mp (e8.2.2.2.1 ▸ lg0.mp q3)
            refine sw_aload_n dX9_readStatement_75 rfl ?_
            refine sw_cv0 dX9_readStatement_76 cv_X9_223 (rc_of h5 rfl) (n_readSee (nm := nm) h5 hT2 hrg.2.2 hn h62 hS2 hR hC ht) (fun rr g3 hr => ?_)
            rcases hr.b with rfl | rfl <;> exact sw_ireturn dX9_readStatement_79 rfl rfl (StP.of (vrb_s (v := 3) (by omega) (fun u hu => by rcases (show u = 0 ∨ u = 1 ∨ u = 2 by omega) with rfl | rfl | rfl <;> assumption) q3) (by rw [if_neg (fun q => absurd q.1 (by decide))]) (by decide) hTn hO2 hr)
        · have q2 := (iw 10 (by decide)).mp (e8.2.2.1 ▸ lg0.mp q2)
          refine sw_aload_n dX9_readStatement_62 rfl ?_
          refine sw_cv0 dX9_readStatement_63 cv_X9_218 (rc_of h5 rfl) (n_readWeigh (nm := nm) h5 hT2 hrg.2.2 hn h62 hS2 hR hC ht) (fun rr g3 hr => ?_)
          rcases hr.b with rfl | rfl <;> exact sw_ireturn dX9_readStatement_66 rfl rfl (StP.of (vrb_s (v := 2) (by omega) (fun u hu => by rcases (show u = 0 ∨ u = 1 by omega) with rfl | rfl <;> assumption) q2) (by rw [if_neg (fun q => absurd q.1 (by decide))]) (by decide) hTn hO2 hr)
      · have q1 := (iw 8 (by decide)).mp (e8.2.1 ▸ lg0.mp q1)
        refine sw_aload_n dX9_readStatement_48 rfl ?_
        refine sw_iload_n dX9_readStatement_49 rfl ?_
        refine sw_cv1 dX9_readStatement_50 cv_X9_213 (rc_of h5 rfl) (n_readBack (nm := nm) (P := (tok tc n T).2.1) (x0 := if 8 ≤ w.n then flF 0 3 (tok tc n T).2.1 else 0) h5 hT2 hrg.2.2 hn h62 hS2 hR hC ht (by omega) rfl) (fun rr g3 hr => ?_)
        rcases hr.b with rfl | rfl <;> exact sw_ireturn dX9_readStatement_53 rfl rfl (StP.of (vrb_s (v := 1) (by omega) (fun u hu => by rcases (show u = 0 by omega) with rfl; assumption) q1) (by simp) (by decide) hTn hO2 hr)
    · have q0 := (iw 6 (by decide)).mp (e8.1 ▸ lg0.mp q0)
      refine sw_aload_n dX9_readStatement_35 rfl ?_
      refine sw_cv0 dX9_readStatement_36 cv_X9_208 (rc_of h5 rfl) (n_readSize (nm := nm) h5 hT2 hrg.2.2 hn h62 hS2 hR hC ht) (fun rr g3 hr => ?_)
      rcases hr.b with rfl | rfl <;> exact sw_ireturn dX9_readStatement_39 rfl rfl (StP.of (vrb_s (v := 0) (by omega) (fun u hu => by omega) q0) (by rw [if_neg (fun q => absurd q.1 (by decide))]) (by decide) hTn hO2 hr)
  · have hw := bz_eq0.mp hw
    have k2 : ¬ (tok tc n T).1 = 2 := fun q => hw (hK.2.2.1.mp q)
    have hv : vrb tc (tok tc n T) 8 0 = none := vrb_n (fun u _ => tok_n2 k2)
    have ee := rd_none (n := n) (w := w) (vb := vb) (nm := nm) hv (by omega)
    rw [← hK.1] at h5
    refine sw_aload_n dX9_readStatement_7 rfl ?_
    refine sw_iconst (v := 1) dX9_readStatement_8 (by decide) ?_
    refine sw_aload_n dX9_readStatement_9 rfl ?_
    refine sw_getf dX9_readStatement_10 fl_X9_154 (h5) rfl ?_
    refine sw_cv2 dX9_readStatement_13 cv_X9_172 (rc_of h5 rfl) (n_fails (k := 1) (w := (tok tc n T).2.1) h5) (fun rr g3 hr => ?_)
    obtain ⟨rfl, h5, hO3⟩ := hr
    exact sw_ireturn dX9_readStatement_16 rfl rfl (Or.inr ⟨by rw [ee]; exact fl_ne (by omega) (by omega) (by omega), rfl, ⟨_, _, _, _, by rw [ee]; exact h5⟩, hO.tr hO3⟩)
def TxP (h : AH) (ra fa : Int32) (n T0 : Nat) (X : TL) (r : Option Value) (h' : AH) : Prop :=
  (X.2.2.2.2.2 = 0 ∧ r = some (.int 1) ∧ ∃ T' va pl gt f' t' a' r', TX h' ra fa n T' 0 va pl (nI X.2.1) gt ∧ RoAt h' f' ∧ MR f' X.1 ∧ SC h' ∧ SameV h h' ∧ t' ≤ T0 ∧ cIn X.1 t' a' r') ∨ (¬ X.2.2.2.2.2 = 0 ∧ r = some (.int 0) ∧ ∃ T' va pl gt sm f', TX h' ra fa n T' X.2.2.2.2.2 va pl sm gt ∧ RoAt h' f' ∧ SC h' ∧ SameV h h')
theorem n_readText {vb : Nat} {T0 : Nat} {G : SG} {d n t a r : Nat} {h : AH} {tc f nm : Nat → Int32} {w : WS} {v : MV} (h5 : MoAt h v) (hv : v.2.1 = nI n) (hT : TpAt h n tc) (hn : n ≤ 400) (h6 : RoAt h f) (hS : SC h) (hR : MR f w) (hC : cIn w t a r) (ht0 : t + 1000 * 400 ≤ T0) (ht : T0 < 2 ^ 30) : SW G mX9_readText (d + 10) 0 0 0 [.ref 75] [] h (TxP h v.1 v.2.2.1 n T0 (tlF tc n 400 (w, 0, advK tc n (0, 0, 0), vb, nm, 0))) := by
  obtain ⟨ra, nn, fa, sp, wr, va, pl, sm, gt⟩ := v
  have hv : nn = nI n := hv
  subst hv
  show SW G mX9_readText (d + 10) 0 0 0 [.ref 75] [] h (TxP h ra fa n T0 (tlF tc n 400 (w, 0, advK tc n (0, 0, 0), vb, nm, 0)))
  have loop : ∀ (c T : Nat) (g : AH) (f : Nat → Int32) (x : TL) (t a r : Nat) (va pl gt : Int32), T ≤ n → n ≤ T + c → x.2.2.2.2.2 = 0 → x.2.2.1 = tok tc n T → tlF tc n c x = tlF tc n 400 (w, 0, advK tc n (0, 0, 0), vb, nm, 0) → TX g ra fa n T 0 va pl (nI x.2.1) gt → RoAt g f → SC g → MR f x.1 → cIn x.1 t a r → t + 1000 * c ≤ T0 → SameV h g → SW G mX9_readText (d + 10) 0 0 15 [.ref 75] [] g (TxP h ra fa n T0 (tlF tc n 400 (w, 0, advK tc n (0, 0, 0), vb, nm, 0))) := by
    intro c
    induction c with
    | zero =>
      intro T g f x t a r va pl gt hTn hnT hx hK he h5 h6 hS hR hC ht0 hV
      have hTe : T = n := by omega
      have he : x = _ := he
      have hTg : TpAt g n tc := by
        obtain ⟨tp, a, b⟩ := hT
        exact ⟨tp, (hV.2 83 (by omega)).trans a, b⟩
      have hPr := tkP_rg (tp := tc) hTn
      refine sw_aload_n dX9_readText_15 rfl ?_
      refine sw_cv0 dX9_readText_16 cv_X9_160 (rc_of h5 rfl) (n_here h5 hTg hTn hn) (fun rr g2 hr => ?_)
      obtain ⟨rfl, h5, hO⟩ := hr
      have hch : chF tc n (tkP tc n T) = -1 := by unfold chF; rw [if_neg (by omega)]
      refine sw_iconst (v := (-1)) dX9_readText_19 (by decide) ?_
      refine sw_cmpeq (tgt := 45) dX9_readText_20 (by decide) (fun hq => ?_) (fun hq => ?_)
      · rw [← he]
        refine sw_iconst (v := 1) dX9_readText_45 (by decide) ?_
        exact sw_ireturn dX9_readText_46 rfl rfl (Or.inl ⟨hx, rfl, _, _, _, _, _, t, a, r, h5, h6.O hO, hR, hS.O hO, hV.tr hO.V, by omega, hC⟩)
      · exact absurd hch hq
    | succ c ih =>
      intro T g f x t a r va pl gt hTn hnT hx hK he h5 h6 hS hR hC ht0 hV
      have hTg : TpAt g n tc := by
        obtain ⟨tp, a, b⟩ := hT
        exact ⟨tp, (hV.2 83 (by omega)).trans a, b⟩
      have hPr := tkP_rg (tp := tc) hTn
      have hKk := tok_K (tc := tc) (n := n) (T := T)
      have hrg := tok_rg (tc := tc) hTn
      refine sw_aload_n dX9_readText_15 rfl ?_
      refine sw_cv0 dX9_readText_16 cv_X9_160 (rc_of h5 rfl) (n_here h5 hTg hTn hn) (fun rr g2 hr => ?_)
      obtain ⟨rfl, h5, hO⟩ := hr
      have hch : chF tc n (tkP tc n T) = -1 ↔ (tok tc n T).1 = 0 := by
        rw [hKk.2.2.2.2]
        unfold tkK0
        rw [kindF_0]
        unfold chF
        by_cases hi : tkP tc n T < n
        · rw [if_pos hi]
          obtain ⟨tp, _, b⟩ := hTg
          obtain ⟨_, cc, hc1, hc2⟩ := b _ hi
          rw [hc2]
          exact ⟨fun q => absurd q (nI_ne_m1 (by omega)), fun q => by omega⟩
        · rw [if_neg hi]
          exact ⟨fun _ => by omega, fun _ => rfl⟩
      refine sw_iconst (v := (-1)) dX9_readText_19 (by decide) ?_
      refine sw_cmpeq (tgt := 45) dX9_readText_20 (by decide) (fun hq => ?_) (fun hq => ?_)
      · have hk0 := hch.mp hq
        rw [tlF, if_neg (fun z => z.2 (by rw [hK]; exact hk0))] at he
        rw [← he]
        refine sw_iconst (v := 1) dX9_readText_45 (by decide) ?_
        exact sw_ireturn dX9_readText_46 rfl rfl (Or.inl ⟨hx, rfl, _, _, _, _, _, t, a, r, h5, h6.O hO, hR, hS.O hO, hV.tr hO.V, by omega, hC⟩)
      · have hk0 : ¬ x.2.2.1.1 = 0 := fun z => hq (hch.mpr (by rw [← hK]; exact z))
        rw [tlF, if_pos ⟨hx, hk0⟩] at he
        have hst := n_readStatement (G := G) (d := d) (vb := x.2.2.2.1) (nm := x.2.2.2.2.1) h5 (hTg.O hO) hPr.2 hn (h6.O hO) (hS.O hO) hR hC (by omega)
        rw [tok_idem hTn, ← hK] at hst
        have hkx : kOk n x.2.2.1 := by rw [hK]; exact ⟨by omega, hrg.2.2⟩
        refine sw_aload_n dX9_readText_23 rfl ?_
        refine sw_cv0 dX9_readText_24 cv_X9_246 (rc_of h5 rfl) (hst) (fun rr g3 hr => ?_)
        unfold tl1 at he
        rw [hx] at he
        rcases hr with ⟨b, rfl, T', va', pl', gt', f', c1, c2, c3, c4, c5, c6, c7, c8⟩ | ⟨b, rfl, ⟨T', va', pl', gt', c1⟩, c2⟩
        · simp only [] at he
          rw [if_pos b] at he
          obtain ⟨-, hv8, hv1, hvs⟩ := rdF_val hn hkx b
          obtain ⟨t', a', r', ht', hC'⟩ := cIn_prf hC (by omega) hv8 hv1 hvs
          refine sw_ifne (tgt := 32) dX9_readText_27 (by decide) (fun hz => ?_) (fun hz => ?_)
          · have h5 := c1
            refine sw_aload_n dX9_readText_32 rfl ?_
            refine sw_dup dX9_readText_33 rfl ?_
            refine sw_getf dX9_readText_34 fl_X9_243 (h5) rfl ?_
            refine sw_iconst (v := 1) dX9_readText_37 (by decide) ?_
            refine sw_iadd dX9_readText_38 ?_
            refine sw_puti dX9_readText_39 fl_X9_243 (h5) (Nat.le_of_ble_eq_true rfl) (fun g4 z4 e4 o4 => ?_)
            have e4 : TX g4 ra fa n T' 0 va' pl' (nI (x.2.1 + 1)) gt' := by rw [nI_1] at e4; exact e4
            have hO4 : SameO g3 g4 := ⟨z4, o4⟩
            refine sw_goto (tgt := 15) dX9_readText_42 (by decide) ?_
            exact ih T' g4 f' _ t' a' r' va' pl' gt' c3 (by omega) b c4 he e4 (c5.O hO4) (c7.O hO4) c6 hC' (by omega) (hV.tr (hO.V.tr (c8.tr hO4.V)))
          · exact absurd hz (by decide)
        · simp only [] at he
          rw [if_neg b] at he
          have he2 : tlF tc n c (x.1, x.2.1, (rdF tc n x.1 0 x.2.2.2.1 x.2.2.1 x.2.2.2.2.1).2.2.2, (rdF tc n x.1 0 x.2.2.2.1 x.2.2.1 x.2.2.2.2.1).2.1, (rdF tc n x.1 0 x.2.2.2.1 x.2.2.1 x.2.2.2.2.1).2.2.1, (rdF tc n x.1 0 x.2.2.2.1 x.2.2.1 x.2.2.2.2.1).1) = (x.1, x.2.1, (rdF tc n x.1 0 x.2.2.2.1 x.2.2.1 x.2.2.2.2.1).2.2.2, (rdF tc n x.1 0 x.2.2.2.1 x.2.2.1 x.2.2.2.2.1).2.1, (rdF tc n x.1 0 x.2.2.2.1 x.2.2.1 x.2.2.2.2.1).2.2.1, (rdF tc n x.1 0 x.2.2.2.1 x.2.2.1 x.2.2.2.2.1).1) := by
            cases c with
            | zero => rfl
            | succ c => rw [tlF, if_neg (fun z => b z.1)]
          rw [he2] at he
          rw [← he]
          refine sw_ifne (tgt := 32) dX9_readText_27 (by decide) (fun hz => ?_) (fun hz => ?_)
          · exact absurd rfl hz
          · refine sw_iconst (v := 0) dX9_readText_30 (by decide) ?_
            exact sw_ireturn dX9_readText_31 rfl rfl (Or.inr ⟨b, rfl, T', va', pl', gt', _, f, c1, (h6.O hO).O c2, (hS.O hO).O c2, hV.tr (hO.V.tr c2.V)⟩)
  refine sw_aload_n dX9_readText_0 rfl ?_
  refine sw_iconst (v := 0) dX9_readText_1 (by decide) ?_
  refine sw_puti dX9_readText_2 fl_X9_243 (h5) (Nat.le_of_ble_eq_true rfl) (fun g1 z1 e1 o1 => ?_)
  refine sw_aload_n dX9_readText_5 rfl ?_
  refine sw_iconst (v := 0) dX9_readText_6 (by decide) ?_
  refine sw_puti dX9_readText_7 fl_X9_154 (e1) (Nat.le_of_ble_eq_true rfl) (fun g2 z2 e2 o2 => ?_)
  refine sw_aload_n dX9_readText_10 rfl ?_
  refine sw_iconst (v := 0) dX9_readText_11 (by decide) ?_
  refine sw_puti dX9_readText_12 fl_X9_157 (e2) (Nat.le_of_ble_eq_true rfl) (fun g3 z3 e3 o3 => ?_)
  have e3 : TX g3 ra fa n 0 0 va pl (nI 0) gt := e3
  have hO : SameO h g3 := SameO.tr ⟨z1, o1⟩ (SameO.tr ⟨z2, o2⟩ ⟨z3, o3⟩)
  exact loop 400 0 g3 f (w, 0, advK tc n (0, 0, 0), vb, nm, 0) t a r va pl gt (Nat.zero_le _) (by omega) rfl rfl rfl e3 (h6.O hO) (hS.O hO) hR hC ht0 hO.V
