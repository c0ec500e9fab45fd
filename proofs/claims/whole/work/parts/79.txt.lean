theorem shwC_le (x : Int32) (bk : Nat) (st : Int32) (f : Nat → GS) : ∀ i, shwC x bk st f i ≤ i := by
  intro i
  induction i with
  | zero => exact Nat.le_refl _
  | succ i ih =>
    show shwC x bk st f i + (if (x = -1 ∨ x = nI i) ∧ ¬ (f i).1 bk = st then 1 else 0) ≤ i + 1
    split <;> omega
theorem tok_n2 {tc : Nat → Int32} {n T k : Nat} (h : ¬ (tok tc n T).1 = 2) : ¬ isWd tc (tok tc n T) k = true := by
  intro q
  unfold isWd at q
  rw [if_neg (fun z => h z.1)] at q
  exact absurd q Bool.false_ne_true
theorem n_readSee {G : SG} {d n T t a r : Nat} {h : AH} {tc f nm : Nat → Int32} {w : WS} {ra fa va pl sm gt : Int32} (h5 : TX h ra fa n T 0 va pl sm gt) (hT : TpAt h n tc) (hTn : T ≤ n) (hn : n ≤ 400) (h6 : RoAt h f) (hS : SC h) (hR : MR f w) (hC : cIn w t a r) (ht : t + 999 < 2 ^ 30) : SW G mX9_readSee (d + 8) 0 0 0 [.ref 75, .retAddr 0, .retAddr 0, .retAddr 0, .retAddr 0] [] h (RdP h tc ra fa n T sm w 3 (rlF tc n w 3 3 0 (0, tok tc n T, nm))) := by
  have hn8 := hC.2.1
  have hN := n_gates (G := G) (d := d + 5) (w := w) h5 hT hTn hn
  refine sw_aload_n dX9_readSee_0 rfl ?_
  refine sw_cv0 dX9_readSee_1 cv_X9_197 (rc_of h5 rfl) (hN) (fun rr g1 hr => ?_)
  obtain ⟨hO, ⟨rfl, x, T1, er, t1, t2, ov, va2, pl2, h5⟩ | ⟨rfl, hne, T', va', pl', gt', h5⟩⟩ := hr
  · have ez := rl_ok (tc := tc) (n := n) (w := w) (v := 3) (i := 0) (c := 2) (nm := nm) rfl er
    refine sw_ifeq (tgt := 23) dX9_readSee_4 (by decide) (fun hz => ?_) (fun hz => ?_)
    · exact absurd hz (by decide)
    · have hN := n_num (G := G) (d := d + 6) (lo := 0) (hi := nI w.n - 1) (w := w) (s := 66) h5 (hT.O hO) t2 hn (by decide) (by decide) (fun x _ _ => cb_B hn8 x)
      have h6' := h6.O hO
      refine sw_aload_n dX9_readSee_7 rfl ?_
      refine sw_iconst (v := 0) dX9_readSee_8 (by decide) ?_
      refine sw_aload_n dX9_readSee_9 rfl ?_
      refine sw_getf dX9_readSee_10 fl_X9_7 (h5) rfl ?_
      refine sw_iconst (v := 1) dX9_readSee_13 (by decide) ?_
      refine sw_iald dX9_readSee_14 (h6') (vp_in_nI (n := 1) (by omega) (by omega)) (hR.1.2.1) ?_
      refine sw_iconst (v := 1) dX9_readSee_15 (by decide) ?_
      refine sw_isub dX9_readSee_16 ?_
      refine sw_cv2 dX9_readSee_17 cv_X9_191 (rc_of h5 rfl) (hN) (fun rr g2 hr => ?_)
      obtain ⟨hO2, ⟨rfl, y, T2, er, t3, t4, ov2, pl3, h5⟩ | ⟨rfl, hne, T', va', pl', gt', h5⟩⟩ := hr
      · have ez := ez.trans (rl_ok (v := 3) (i := 0 + 1) (c := 1) rfl er)
        have hO2 := hO.tr hO2
        obtain ⟨bk, hb, be⟩ := ba_of (by omega) (ok_B ov2)
        have hK := tok_K (tc := tc) (n := n) (T := T2)
        have hrg := tok_rg (tc := tc) t4
        have hPr := tkP_rg (tp := tc) t4
        refine sw_ifne (tgt := 25) dX9_readSee_20 (by decide) (fun hz2 => ?_) (fun hz2 => ?_)
        · refine sw_aload_n dX9_readSee_25 rfl ?_
          refine sw_getf dX9_readSee_26 fl_X9_175 (h5) rfl ?_
          refine sw_istore_n dX9_readSee_29 (by decide) rfl ?_
          refine sw_aload_n dX9_readSee_30 rfl ?_
          refine sw_cv0 dX9_readSee_31 cv_X9_178 (rc_of h5 rfl) (n_isWord h5 (hT.O hO2) t4 hn) (fun rr g3 hr => ?_)
          obtain ⟨rfl, h5, hO3⟩ := hr
          have hO3 := hO2.tr hO3
          refine sw_ifne (tgt := 47) dX9_readSee_34 (by decide) (fun hw => ?_) (fun hw => ?_)
          · have hw := bz_eq1.mp hw
            obtain ⟨te, tl, ta⟩ := tok_2 hw
            refine sw_aload_n dX9_readSee_47 rfl ?_
            refine sw_cv0 dX9_readSee_48 cv_X9_185 (rc_of h5 rfl) (n_readWord h5 (hT.O hO3) hPr.2 hn) (fun rr g4 hr => ?_)
            obtain ⟨rfl, h5, hO4⟩ := hr
            have hO4 := hO3.tr hO4
            have iw0 := wd_is (tc := tc) (k := 0) (by decide) tl ta
            have iw1 := wd_is (tc := tc) (k := 1) (by decide) tl ta
            have iw2 := wd_is (tc := tc) (k := 2) (by decide) tl ta
            rw [← c_all.2.1, ← te] at iw0
            rw [← c_all.2.2.1, ← te] at iw1
            rw [← c_all.2.2.2.1, ← te] at iw2
            have e22 : (tok tc n T2).2.2 = exB tc n 2 (n - tkP tc n T2) (tkP tc n T2) := by rw [te]
            generalize wdF tc (exB tc n 2 (n - tkP tc n T2) (tkP tc n T2) - tkP tc n T2) (tkP tc n T2) 0 0 = wx at iw0 iw1 iw2
            rw [← e22] at h5
            have fin : ∀ st : Int32, ¬ st = -1 → rnF tc n w 72 0 (tok tc n T2) = (st, 0, tok tc n (tok tc n T2).2.2) → SW G mX9_readSee (d + 8) 0 0 89 [.ref 75, .int y, .long wx, .retAddr 0, .retAddr 0] [.int st] g4 (RdP h tc ra fa n T sm w 3 (rlF tc n w 3 3 0 (0, tok tc n T, nm))) := by
              intro st hst er
              have ez := ez.trans (rl_ok (v := 3) (i := 0 + 1 + 1) (c := 0) rfl er)
              rw [show rlF tc n w 3 0 (0 + 1 + 1 + 1) (0, tok tc n (tok tc n T2).2.2, upd (upd (upd nm 0 x) (0 + 1) y) (0 + 1 + 1) st) = (0, tok tc n (tok tc n T2).2.2, upd (upd (upd nm 0 x) 1 y) 2 st) from rfl] at ez
              refine sw_istore dX9_readSee_89 (by decide) rfl ?_
              refine sw_iload dX9_readSee_91 rfl ?_
              refine sw_iconst (v := (-1)) dX9_readSee_93 (by decide) ?_
              refine sw_cmpne (tgt := 107) dX9_readSee_94 (by decide) (fun hq => ?_) (fun hq => ?_)
              · refine sw_aload_n dX9_readSee_107 rfl ?_
                refine sw_cv0 dX9_readSee_108 cv_X9_194 (rc_of h5 rfl) (n_ends h5 (hT.O hO4) hrg.2.2 hn) (fun rr g5 hr => ?_)
                obtain ⟨hO5, ⟨e4, rfl, h5⟩ | ⟨e4, rfl, T', h5⟩⟩ := hr
                · have hO5 := hO4.tr hO5
                  refine sw_ifeq (tgt := 132) dX9_readSee_111 (by decide) (fun hz4 => ?_) (fun hz4 => ?_)
                  · exact absurd hz4 (by decide)
                  · subst be
                    refine sw_aload_n dX9_readSee_114 rfl ?_
                    refine sw_aload_n dX9_readSee_115 rfl ?_
                    refine sw_getf dX9_readSee_116 fl_X9_182 (h5) rfl ?_
                    refine sw_iload_n dX9_readSee_119 rfl ?_
                    refine sw_iload dX9_readSee_120 rfl ?_
                    refine sw_cv3 dX9_readSee_122 cv_X9_128 (rc_of h5 rfl) (n_seesSo (bk := bk) (g := x) (st := st) h5.M (h6.O hO5) hR (by omega)) (fun rr g6 hr => ?_)
                    obtain ⟨rfl, hS3, f', h6', hR'⟩ := hr
                    refine sw_iflt (tgt := 132) dX9_readSee_125 (by decide) (fun hz5 => ?_) (fun hz5 => ?_)
                    · exact absurd hz5 (nI_pos (by have := shwC_le x bk st w.gs 4; omega))
                    · refine sw_iconst (v := 1) dX9_readSee_128 (by decide) ?_
                      refine sw_goto (tgt := 133) dX9_readSee_129 (by decide) ?_
                      exact sw_ireturn dX9_readSee_133 rfl rfl (RdP.ok ez e4 (h5.R hS3) (by omega) hrg.2.2 h6' (by show MR f' (w.sg (mapG (shwF x (nI bk).toNatClampNeg st) 4 w.gs)); rw [nI_clamp (by omega)]; exact hR') ((hS.O hO5).R hS3) (hO5.V.tr hS3.V))
                · refine sw_ifeq (tgt := 132) dX9_readSee_111 (by decide) (fun hz4 => ?_) (fun hz4 => ?_)
                  · refine sw_iconst (v := 0) dX9_readSee_132 (by decide) ?_
                    exact sw_ireturn dX9_readSee_133 rfl rfl (RdP.noend ez e4 h5 hrg.2.2 hn (hO4.tr hO5))
                  · exact absurd rfl hz4
              · exact absurd hq hst
            have bad : ¬ isWd tc (tok tc n T2) 0 = true → ¬ isWd tc (tok tc n T2) 1 = true → ¬ isWd tc (tok tc n T2) 2 = true → SW G mX9_readSee (d + 8) 0 0 89 [.ref 75, .int y, .long wx, .retAddr 0, .retAddr 0] [.int (-1)] g4 (RdP h tc ra fa n T sm w 3 (rlF tc n w 3 3 0 (0, tok tc n T, nm))) := by
              intro q0 q1 q2
              have ee : (rnF tc n w 72 0 (tok tc n T2)).2.1 = flF 0 1 (tkP tc n T2) := by
                unfold rnF rhF
                rw [if_pos rfl, if_neg q0, if_neg q1, if_neg q2, hK.1]
              have hne : ¬ (rnF tc n w 72 0 (tok tc n T2)).2.1 = 0 := by rw [ee]; exact fl_ne (by omega) (by omega) (by omega)
              refine sw_istore dX9_readSee_89 (by decide) rfl ?_
              refine sw_iload dX9_readSee_91 rfl ?_
              refine sw_iconst (v := (-1)) dX9_readSee_93 (by decide) ?_
              refine sw_cmpne (tgt := 107) dX9_readSee_94 (by decide) (fun hq => ?_) (fun hq => ?_)
              · exact absurd rfl hq
              · refine sw_aload_n dX9_readSee_97 rfl ?_
                refine sw_iconst (v := 1) dX9_readSee_98 (by decide) ?_
                refine sw_aload_n dX9_readSee_99 rfl ?_
                refine sw_getf dX9_readSee_100 fl_X9_163 (h5) rfl ?_
                refine sw_cv2 dX9_readSee_103 cv_X9_172 (rc_of h5 rfl) (n_fails (k := 1) (w := tkP tc n T2) h5) (fun rr g5 hr => ?_)
                obtain ⟨rfl, h5, hO5⟩ := hr
                exact sw_ireturn dX9_readSee_106 rfl rfl (RdP.bad (ez.trans (rl_bad (s := 72) (v := 3) (i := 0 + 1 + 1) (c := 0) rfl hne)) hne (by rw [ee]; exact h5) (hO4.tr hO5))
            refine sw_lstore_n dX9_readSee_51 (by decide) rfl ?_
            refine sw_lload_n dX9_readSee_52 rfl ?_
            refine sw_ldc2 dX9_readSee_53 w_1042 ?_
            refine sw_lcmp dX9_readSee_56 ?_
            refine sw_ifne (tgt := 64) dX9_readSee_57 (by decide) (fun q0 => ?_) (fun q0 => ?_)
            · have q0 : ¬ isWd tc (tok tc n T2) 0 = true := fun z => q0 (lg0.mpr (iw0.mpr z))
              refine sw_lload_n dX9_readSee_64 rfl ?_
              refine sw_ldc2 dX9_readSee_65 w_1043 ?_
              refine sw_lcmp dX9_readSee_68 ?_
              refine sw_ifne (tgt := 76) dX9_readSee_69 (by decide) (fun q1 => ?_) (fun q1 => ?_)
              · have q1 : ¬ isWd tc (tok tc n T2) 1 = true := fun z => q1 (lg0.mpr (iw1.mpr z))
                refine sw_lload_n dX9_readSee_76 rfl ?_
                refine sw_ldc2 dX9_readSee_77 w_1044 ?_
                refine sw_lcmp dX9_readSee_80 ?_
                refine sw_ifne (tgt := 88) dX9_readSee_81 (by decide) (fun q2 => ?_) (fun q2 => ?_)
                · have q2 : ¬ isWd tc (tok tc n T2) 2 = true := fun z => q2 (lg0.mpr (iw2.mpr z))
                  refine sw_iconst (v := (-1)) dX9_readSee_88 (by decide) ?_
                  exact bad q0 q1 q2
                · have q2 := iw2.mp (lg0.mp q2)
                  refine sw_iconst (v := 2) dX9_readSee_84 (by decide) ?_
                  refine sw_goto (tgt := 89) dX9_readSee_85 (by decide) ?_
                  refine fin 2 (by decide) ?_
                  unfold rnF rhF
                  rw [if_pos rfl, if_neg q0, if_neg q1, if_pos q2]
                  rfl
              · have q1 := iw1.mp (lg0.mp q1)
                refine sw_iconst (v := 0) dX9_readSee_72 (by decide) ?_
                refine sw_goto (tgt := 89) dX9_readSee_73 (by decide) ?_
                refine fin 0 (by decide) ?_
                unfold rnF rhF
                rw [if_pos rfl, if_neg q0, if_pos q1]
                rfl
            · have q0 := iw0.mp (lg0.mp q0)
              refine sw_iconst (v := 1) dX9_readSee_60 (by decide) ?_
              refine sw_goto (tgt := 89) dX9_readSee_61 (by decide) ?_
              refine fin 1 (by decide) ?_
              unfold rnF rhF
              rw [if_pos rfl, if_pos q0]
              rfl
          · have hw := bz_eq0.mp hw
            have k2 : ¬ (tok tc n T2).1 = 2 := fun q => hw (hK.2.2.1.mp q)
            have ee : (rnF tc n w 72 0 (tok tc n T2)).2.1 = flF 0 1 (tkP tc n T2) := by
              unfold rnF rhF
              rw [if_pos rfl, if_neg (tok_n2 k2), if_neg (tok_n2 k2), if_neg (tok_n2 k2), hK.1]
            have hne : ¬ (rnF tc n w 72 0 (tok tc n T2)).2.1 = 0 := by rw [ee]; exact fl_ne (by omega) (by omega) (by omega)
            refine sw_aload_n dX9_readSee_37 rfl ?_
            refine sw_iconst (v := 1) dX9_readSee_38 (by decide) ?_
            refine sw_aload_n dX9_readSee_39 rfl ?_
            refine sw_getf dX9_readSee_40 fl_X9_154 (h5) rfl ?_
            refine sw_cv2 dX9_readSee_43 cv_X9_172 (rc_of h5 rfl) (n_fails (k := 1) (w := tkP tc n T2) h5) (fun rr g4 hr => ?_)
            obtain ⟨rfl, h5, hO4⟩ := hr
            exact sw_ireturn dX9_readSee_46 rfl rfl (RdP.bad (ez.trans (rl_bad (s := 72) (v := 3) (i := 0 + 1 + 1) (c := 0) rfl hne)) hne (by rw [ee]; exact h5) (hO3.tr hO4))
        · exact absurd hz2 (by decide)
      · refine sw_ifne (tgt := 25) dX9_readSee_20 (by decide) (fun hz2 => ?_) (fun hz2 => ?_)
        · exact absurd rfl hz2
        · refine sw_iconst (v := 0) dX9_readSee_23 (by decide) ?_
          exact sw_ireturn dX9_readSee_24 rfl rfl (RdP.bad (ez.trans (rl_bad (s := 66) (v := 3) (i := 0 + 1) (c := 1) rfl hne)) hne h5 (hO.tr hO2))
  · refine sw_ifeq (tgt := 23) dX9_readSee_4 (by decide) (fun hz => ?_) (fun hz => ?_)
    · refine sw_iconst (v := 0) dX9_readSee_23 (by decide) ?_
      exact sw_ireturn dX9_readSee_24 rfl rfl (RdP.bad (rl_bad (s := 71) (v := 3) (i := 0) (c := 2) rfl hne) hne h5 hO)
    · exact absurd rfl hz
theorem n_readPack {G : SG} {d n T t a r : Nat} {h : AH} {tc f nm : Nat → Int32} {w : WS} {ra fa va pl sm gt : Int32} (h5 : TX h ra fa n T 0 va pl sm gt) (hT : TpAt h n tc) (hTn : T ≤ n) (hn : n ≤ 400) (h6 : RoAt h f) (hS : SC h) (hR : MR f w) (hC : cIn w t a r) (ht : t + 999 < 2 ^ 30) : SW G mX9_readPack (d + 8) 0 0 0 [.ref 75, .retAddr 0] [] h (RdP h tc ra fa n T sm w 7 (rlF tc n w 7 2 0 (0, tok tc n T, nm))) := by
  have hN := n_gates (G := G) (d := d + 5) (w := w) h5 hT hTn hn
  refine sw_aload_n dX9_readPack_0 rfl ?_
  refine sw_cv0 dX9_readPack_1 cv_X9_197 (rc_of h5 rfl) (hN) (fun rr g1 hr => ?_)
  obtain ⟨hO, ⟨rfl, x, T1, er, t1, t2, ov, va2, pl2, h5⟩ | ⟨rfl, hne, T', va', pl', gt', h5⟩⟩ := hr
  · have ez := rl_ok (tc := tc) (n := n) (w := w) (v := 7) (i := 0) (c := 1) (nm := nm) rfl er
    refine sw_ifeq (tgt := 25) dX9_readPack_4 (by decide) (fun hz => ?_) (fun hz => ?_)
    · exact absurd hz (by decide)
    · have hN := n_num (G := G) (d := d + 6) (lo := 0) (hi := 9999) (w := w) (s := 70) h5 (hT.O hO) t2 hn (by decide) (by decide) (fun x _ _ => cb_F x)
      refine sw_aload_n dX9_readPack_7 rfl ?_
      refine sw_iconst (v := 0) dX9_readPack_8 (by decide) ?_
      refine sw_sipush (v := 9999) dX9_readPack_9 (by decide) ?_
      refine sw_cv2 dX9_readPack_12 cv_X9_191 (rc_of h5 rfl) (hN) (fun rr g2 hr => ?_)
      obtain ⟨hO2, ⟨rfl, y, T2, er, t3, t4, ov2, pl3, h5⟩ | ⟨rfl, hne, T', va', pl', gt', h5⟩⟩ := hr
      · have ez := ez.trans (rl_ok (v := 7) (i := 0 + 1) (c := 0) rfl er)
        rw [show rlF tc n w 7 0 (0 + 1 + 1) (0, tok tc n T2, upd (upd nm 0 x) (0 + 1) y) = (0, tok tc n T2, upd (upd nm 0 x) 1 y) from rfl] at ez
        have hO2 := hO.tr hO2
        refine sw_ifeq (tgt := 25) dX9_readPack_15 (by decide) (fun hz2 => ?_) (fun hz2 => ?_)
        · exact absurd hz2 (by decide)
        · refine sw_aload_n dX9_readPack_18 rfl ?_
          refine sw_cv0 dX9_readPack_19 cv_X9_194 (rc_of h5 rfl) (n_ends h5 (hT.O hO2) t4 hn) (fun rr g3 hr => ?_)
          obtain ⟨hO3, ⟨e4, rfl, h5⟩ | ⟨e4, rfl, T', h5⟩⟩ := hr
          · have hO3 := hO2.tr hO3
            have hid := id_of (ok_F ov2)
            have loop : ∀ (c i : Nat) (g : AH) (f1 : Nat → Int32) (w1 : WS), i + c = 4 → pckW x y c i w1 = pckW x y 4 0 w → TX g ra fa n (tok tc n T2).2.2 0 y pl3 sm x → RoAt g f1 → SC g → MR f1 w1 → cIn w1 t a r → SameV h g → SW G mX9_readPack (d + 8) 0 0 29 [.ref 75, .int (nI i)] [] g (RdP h tc ra fa n T sm w 7 (rlF tc n w 7 2 0 (0, tok tc n T, nm))) := by
              intro c
              induction c with
              | zero =>
                intro i g f1 w1 hi he h5 h6 hS hR hC hV
                have : i = 4 := by omega
                subst this
                refine sw_iload_n dX9_readPack_29 rfl ?_
                refine sw_iconst (v := 4) dX9_readPack_30 (by decide) ?_
                refine sw_cmpge (tgt := 66) dX9_readPack_31 (by decide) (fun hc => ?_) (fun hc => ?_)
                · refine sw_iconst (v := 1) dX9_readPack_66 (by decide) ?_
                  exact sw_ireturn dX9_readPack_67 rfl rfl (RdP.ok ez e4 h5 (by omega) t4 h6 (by show MR f1 (pckW x y 4 0 w); rw [← he]; exact hR) hS hV)
                · exact absurd (nI_le (a := 4) (b := 4) (Nat.le_refl _) (by omega)) hc
              | succ c ih =>
                intro i g f1 w1 hi he h5 h6 hS hR hC hV
                have send : (x = -1 ∨ x = nI i) → SW G mX9_readPack (d + 8) 0 0 50 [.ref 75, .int (nI i)] [] g (RdP h tc ra fa n T sm w 7 (rlF tc n w 7 2 0 (0, tok tc n T, nm))) := by
                  intro hx
                  rw [pckW, if_pos hx] at he
                  refine sw_aload_n dX9_readPack_50 rfl ?_
                  refine sw_iload_n dX9_readPack_51 rfl ?_
                  refine sw_aload_n dX9_readPack_52 rfl ?_
                  refine sw_getf dX9_readPack_53 fl_X9_175 (h5) rfl ?_
                  refine sw_cv2 dX9_readPack_56 cv_X9_145 (rc_of h5 rfl) (n_packs (g := i) (id := y) h5.M h6 hS hR hC (by omega)) (fun rr g4 hr => ?_)
                  obtain ⟨rfl, hX4, hS4, f', h6', hR'⟩ := hr
                  refine sw_pop dX9_readPack_59 rfl ?_
                  refine sw_iinc (v := nI (i + 1)) dX9_readPack_60 rfl (nI_1 i) (by decide) rfl ?_
                  refine sw_goto (tgt := 29) dX9_readPack_63 (by decide) ?_
                  exact ih (i + 1) g4 f' _ (by omega) he (h5.X hX4) h6' hS4 hR' (hC.snd (by omega) hid) (hV.tr hX4.V)
                refine sw_iload_n dX9_readPack_29 rfl ?_
                refine sw_iconst (v := 4) dX9_readPack_30 (by decide) ?_
                refine sw_cmpge (tgt := 66) dX9_readPack_31 (by decide) (fun hc => ?_) (fun hc => ?_)
                · exact absurd hc (nI_ge (b := 4) (by omega) (by omega))
                · refine sw_aload_n dX9_readPack_34 rfl ?_
                  refine sw_getf dX9_readPack_35 fl_X9_182 (h5) rfl ?_
                  refine sw_iconst (v := (-1)) dX9_readPack_38 (by decide) ?_
                  refine sw_cmpeq (tgt := 50) dX9_readPack_39 (by decide) (fun q1 => ?_) (fun q1 => ?_)
                  · exact send (Or.inl q1)
                  · refine sw_aload_n dX9_readPack_42 rfl ?_
                    refine sw_getf dX9_readPack_43 fl_X9_182 (h5) rfl ?_
                    refine sw_iload_n dX9_readPack_46 rfl ?_
                    refine sw_cmpne (tgt := 60) dX9_readPack_47 (by decide) (fun q2 => ?_) (fun q2 => ?_)
                    · rw [pckW, if_neg (fun z => z.elim q1 q2)] at he
                      refine sw_iinc (v := nI (i + 1)) dX9_readPack_60 rfl (nI_1 i) (by decide) rfl ?_
                      refine sw_goto (tgt := 29) dX9_readPack_63 (by decide) ?_
                      exact ih (i + 1) g f1 w1 (by omega) he h5 h6 hS hR hC hV
                    · exact send (Or.inr q2)
            refine sw_ifne (tgt := 27) dX9_readPack_22 (by decide) (fun hz3 => ?_) (fun hz3 => ?_)
            · refine sw_iconst (v := 0) dX9_readPack_27 (by decide) ?_
              refine sw_istore_n dX9_readPack_28 (by decide) rfl ?_
              exact loop 4 0 g3 f w rfl rfl h5 (h6.O hO3) (hS.O hO3) hR hC hO3.V
            · exact absurd hz3 (by decide)
          · refine sw_ifne (tgt := 27) dX9_readPack_22 (by decide) (fun hz3 => ?_) (fun hz3 => ?_)
            · exact absurd rfl hz3
            · refine sw_iconst (v := 0) dX9_readPack_25 (by decide) ?_
              exact sw_ireturn dX9_readPack_26 rfl rfl (RdP.noend ez e4 h5 t4 hn (hO2.tr hO3))
      · refine sw_ifeq (tgt := 25) dX9_readPack_15 (by decide) (fun hz2 => ?_) (fun hz2 => ?_)
        · refine sw_iconst (v := 0) dX9_readPack_25 (by decide) ?_
          exact sw_ireturn dX9_readPack_26 rfl rfl (RdP.bad (ez.trans (rl_bad (s := 70) (v := 7) (i := 0 + 1) (c := 0) rfl hne)) hne h5 (hO.tr hO2))
        · exact absurd rfl hz2
  · refine sw_ifeq (tgt := 25) dX9_readPack_4 (by decide) (fun hz => ?_) (fun hz => ?_)
    · refine sw_iconst (v := 0) dX9_readPack_25 (by decide) ?_
      exact sw_ireturn dX9_readPack_26 rfl rfl (RdP.bad (rl_bad (s := 71) (v := 7) (i := 0) (c := 1) rfl hne) hne h5 hO)
    · exact absurd rfl hz
theorem cIn_pck {x y : Int32} {t a r : Nat} (hid : ∃ i, i ≤ 9999 ∧ y = nI i) : ∀ (c g : Nat) (w : WS), g + c ≤ 4 → cIn w t a r → cIn (pckW x y c g w) t a r := by
  intro c
  induction c with
  | zero => intro g w _ h; exact h
  | succ c ih =>
    intro g w hg h
    unfold pckW
    refine ih (g + 1) _ (by omega) ?_
    split
    · exact h.snd (by omega) hid
    · exact h
theorem cIn_prf {w : WS} {t a r v : Nat} {nm : Nat → Int32} (hC : cIn w t a r) (ht : t + 999 < 2 ^ 30) (hv : v < 8) (h1 : v = 1 → w.n < 8) (h : okVs w v nm) : ∃ t' a' r', t' ≤ t + 999 ∧ cIn (prfW w v nm) t' a' r' := by
  have hn8 := hC.2.1
  unfold prfW
  rcases (show v = 0 ∨ v = 1 ∨ v = 2 ∨ v = 3 ∨ v = 4 ∨ v = 5 ∨ v = 6 ∨ v = 7 by omega) with rfl | rfl | rfl | rfl | rfl | rfl | rfl | rfl
  · obtain ⟨p, hp, e⟩ := isSz_pos (ok_S h)
    have hp2 := szN_rg p hp
    refine ⟨t, a, r, by omega, ?_⟩
    show cIn (rszW w (nm 0).toNatClampNeg) t a r
    rw [e, nI_clamp (by omega)]
    exact hC.rsz hp
  · exact ⟨t, a, r, by omega, hC.add (h1 rfl) (ok_W (h 1 (by decide)))⟩
  · exact ⟨t, a, r, by omega, hC.wgt (ok_W (h 1 (by decide)))⟩
  · obtain ⟨j, hj, e⟩ := ba_of (by omega) (ok_B (h 1 (by decide)))
    refine ⟨t, a, r, by omega, ?_⟩
    show cIn (w.sg (mapG (shwF (nm 0) (nm 1).toNatClampNeg (nm 2)) 4 w.gs)) t a r
    rw [e, nI_clamp (by omega)]
    exact hC.shw hj
  · obtain ⟨k, hk, e⟩ := t999_of (ok_T (h 0 (by decide)))
    refine ⟨t + k, a, r, by omega, ?_⟩
    show cIn (tckW w (nm 0)) (t + k) a r
    rw [e]
    exact hC.tick (by omega)
  · obtain ⟨k, hk1, hk2, e⟩ := rm_of (ok_R (h 0 (by decide)))
    refine ⟨t, a, k, by omega, ?_⟩
    show cIn (rmW w (nm 0)) t a k
    rw [e]
    exact hC.rmw ⟨hk1, hk2⟩
  · obtain ⟨k, hk, e⟩ := a99_of (ok_A (h 0 (by decide)))
    refine ⟨t, k, r, by omega, ?_⟩
    show cIn (agW w (nm 0)) t k r
    rw [e]
    exact hC.agw hk (by omega)
  · exact ⟨t, a, r, by omega, cIn_pck (id_of (ok_F (h 1 (by decide)))) 4 0 w (by omega) hC⟩
