/-! statements, by the reference -/
def SameV (h h' : AH) : Prop := h'.length = h.length ∧ ∀ j, j < 75 ∨ j = 77 ∨ 83 ≤ j → h'[j]? = h[j]?
theorem SameV.rf {h : AH} : SameV h h := ⟨rfl, fun _ _ => rfl⟩
theorem SameV.tr {h h1 h2 : AH} (x : SameV h h1) (y : SameV h1 h2) : SameV h h2 := ⟨y.1.trans x.1, fun j p => (y.2 j p).trans (x.2 j p)⟩
theorem SameO.V {h h' : AH} (x : SameO h h') : SameV h h' := ⟨x.1, fun j p => x.2 j (by omega)⟩
theorem SameR.V {h h' : AH} (x : SameR h h') : SameV h h' := ⟨x.1, fun j p => x.2 j (by omega)⟩
theorem SameX.V {h h' : AH} (x : SameX h h') : SameV h h' := ⟨x.1, fun j p => x.2 j (by omega)⟩
theorem SC.O {h h' : AH} (H : SC h) (x : SameO h h') : SC h' := H.kept (fun j _ _ => x.2 j (by omega))
theorem RoAt.O {h h' : AH} {f : Nat → Int32} (H : RoAt h f) (x : SameO h h') : RoAt h' f := (x.2 76 (by omega)).trans H
theorem TX.R {h h' : AH} {ra fa : Int32} {n T : Nat} {wr va pl sm gt : Int32} (H : TX h ra fa n T wr va pl sm gt) (x : SameR h h') : TX h' ra fa n T wr va pl sm gt := (x.2 75 (by omega)).trans H
theorem TX.X {h h' : AH} {ra fa : Int32} {n T : Nat} {wr va pl sm gt : Int32} (H : TX h ra fa n T wr va pl sm gt) (x : SameX h h') : TX h' ra fa n T wr va pl sm gt := (x.2 75 (by omega)).trans H
abbrev Z3 : Type := Int32 × K3 × (Nat → Int32)
def finF (z : Z3) : Int32 := if z.2.1.1 = 4 then z.1 else flF z.1 1 z.2.1.2.1
theorem finF_ne {z : Z3} (h : ¬ z.1 = 0) : finF z = z.1 := by
  unfold finF
  split
  · rfl
  · exact flF_n0 h
def RdP (h : AH) (tc : Nat → Int32) (ra fa : Int32) (n T : Nat) (sm : Int32) (w : WS) (v : Nat) (z : Z3) (r : Option Value) (h' : AH) : Prop :=
  (finF z = 0 ∧ r = some (.int 1) ∧ ∃ T' va pl gt f', TX h' ra fa n T' 0 va pl sm gt ∧ T < T' ∧ T' ≤ n ∧ advK tc n z.2.1 = tok tc n T' ∧ RoAt h' f' ∧ MR f' (prfW w v z.2.2) ∧ SC h' ∧ SameV h h') ∨ (¬ finF z = 0 ∧ r = some (.int 0) ∧ (∃ T' va pl gt, TX h' ra fa n T' (finF z) va pl sm gt) ∧ SameO h h')
theorem RdP.bad {h h' : AH} {tc : Nat → Int32} {ra fa va pl gt : Int32} {n T T' : Nat} {sm x : Int32} {w : WS} {v : Nat} {z : Z3} {K : K3} {nm : Nat → Int32} (hz : z = (x, K, nm)) (hne : ¬ x = 0) (h5 : TX h' ra fa n T' x va pl sm gt) (hO : SameO h h') : RdP h tc ra fa n T sm w v z (some (.int 0)) h' := by
  subst hz
  have e : finF (x, K, nm) = x := finF_ne (z := (x, K, nm)) hne
  exact Or.inr ⟨by rw [e]; exact hne, rfl, ⟨_, _, _, _, by rw [e]; exact h5⟩, hO⟩
theorem RdP.ok {h h' : AH} {tc f' nm : Nat → Int32} {ra fa va pl gt : Int32} {n T T2 : Nat} {sm : Int32} {w : WS} {v : Nat} {z : Z3} (hz : z = (0, tok tc n T2, nm)) (h4 : (tok tc n T2).1 = 4) (h5 : TX h' ra fa n (tok tc n T2).2.2 0 va pl sm gt) (hT : T ≤ T2) (hn : T2 ≤ n) (h6 : RoAt h' f') (hR : MR f' (prfW w v nm)) (hS : SC h') (hV : SameV h h') : RdP h tc ra fa n T sm w v z (some (.int 1)) h' := by
  subst hz
  have hr := tkP_rg (tp := tc) hn
  have hrg := tok_rg (tc := tc) hn
  have e4 := tok_4 (tok_K.2.2.2.1.mp h4)
  refine Or.inl ⟨by unfold finF; rw [if_pos h4], rfl, _, va, pl, gt, f', h5, by omega, hrg.2.2, rfl, h6, hR, hS, hV⟩
theorem RdP.noend {h h' : AH} {tc nm : Nat → Int32} {ra fa va pl gt : Int32} {n T T' T2 : Nat} {sm : Int32} {w : WS} {v : Nat} {z : Z3} (hz : z = (0, tok tc n T2, nm)) (h4 : ¬ (tok tc n T2).1 = 4) (h5 : TX h' ra fa n T' (flF 0 1 (tok tc n T2).2.1) va pl sm gt) (hn : T2 ≤ n) (hn4 : n ≤ 400) (hO : SameO h h') : RdP h tc ra fa n T sm w v z (some (.int 0)) h' := by
  subst hz
  have hrg := tok_rg (tc := tc) hn
  have e : finF (0, tok tc n T2, nm) = flF 0 1 (tok tc n T2).2.1 := by unfold finF; rw [if_neg h4]
  exact Or.inr ⟨by rw [e]; exact fl_ne (by omega) (by omega) (by omega), rfl, ⟨_, _, _, _, by rw [e]; exact h5⟩, hO⟩
theorem rl_n {tc : Nat → Int32} {n : Nat} {w : WS} {v c i : Nat} {x : Z3} (h : ¬ x.1 = 0) : rlF tc n w v c i x = x := by
  cases c with
  | zero => rfl
  | succ c => rw [rlF, if_neg h]
theorem rl_ok {tc nm : Nat → Int32} {n : Nat} {w : WS} {v c i : Nat} {K K1 : K3} {s x : Int32} (hs : sbc (7 + 2 * v) i = s) (h : rnF tc n w s 0 K = (x, 0, K1)) : rlF tc n w v (c + 1) i (0, K, nm) = rlF tc n w v c (i + 1) (0, K1, upd nm i x) := by
  rw [rlF, if_pos rfl]
  show rlF tc n w v c (i + 1) ((rnF tc n w (sbc (7 + 2 * v) i) 0 K).2.1, (rnF tc n w (sbc (7 + 2 * v) i) 0 K).2.2, upd nm i (rnF tc n w (sbc (7 + 2 * v) i) 0 K).1) = _
  rw [hs, h]
theorem rl_bad {tc nm : Nat → Int32} {n : Nat} {w : WS} {v c i : Nat} {K : K3} {s : Int32} (hs : sbc (7 + 2 * v) i = s) (h : ¬ (rnF tc n w s 0 K).2.1 = 0) : rlF tc n w v (c + 1) i (0, K, nm) = ((rnF tc n w s 0 K).2.1, (rnF tc n w s 0 K).2.2, upd nm i (rnF tc n w s 0 K).1) := by
  rw [rlF, if_pos rfl]
  show rlF tc n w v c (i + 1) ((rnF tc n w (sbc (7 + 2 * v) i) 0 K).2.1, (rnF tc n w (sbc (7 + 2 * v) i) 0 K).2.2, upd nm i (rnF tc n w (sbc (7 + 2 * v) i) 0 K).1) = _
  rw [hs]
  exact rl_n h
theorem n_readSize {G : SG} {d n T t a r : Nat} {h : AH} {tc f nm : Nat → Int32} {w : WS} {ra fa va pl sm gt : Int32} (h5 : TX h ra fa n T 0 va pl sm gt) (hT : TpAt h n tc) (hTn : T ≤ n) (hn : n ≤ 400) (h6 : RoAt h f) (hS : SC h) (hR : MR f w) (hC : cIn w t a r) (ht : t + 999 < 2 ^ 30) : SW G mX9_readSize (d + 8) 0 0 0 [.ref 75] [] h (RdP h tc ra fa n T sm w 0 (rlF tc n w 0 1 0 (0, tok tc n T, nm))) := by
  have hrg := tok_rg (tc := tc) hTn
  refine sw_aload_n dX9_readSize_0 rfl ?_
  refine sw_iconst (v := 0) dX9_readSize_1 (by decide) ?_
  refine sw_sipush (v := 9999) dX9_readSize_2 (by decide) ?_
  refine sw_cv2 dX9_readSize_5 cv_X9_191 (rc_of h5 rfl) (n_number h5 hT hTn hn) (fun rr g1 hr => ?_)
  obtain ⟨hO, ⟨a, b, rfl, h5⟩ | ⟨⟨a, b⟩, rfl, T', va', pl', h5⟩ | ⟨a, rfl, T', va', pl', h5⟩⟩ := hr
  · refine sw_ifne (tgt := 13) dX9_readSize_8 (by decide) (fun hz => ?_) (fun hz => ?_)
    · refine sw_aload_n dX9_readSize_13 rfl ?_
      refine sw_getf dX9_readSize_14 fl_X9_175 (h5) rfl ?_
      refine sw_pcs1 dX9_readSize_17 cs_X9_109 (n_isPrime) ?_
      refine sw_ifne (tgt := 33) dX9_readSize_20 (by decide) (fun hp => ?_) (fun hp => ?_)
      · have hp := bz_eq1.mp hp
        have ez := rl_ok (tc := tc) (n := n) (w := w) (v := 0) (i := 0) (c := 0) (nm := nm) rfl (show rnF tc n w 83 0 (tok tc n T) = (nval tc n T, 0, tok tc n (tok tc n T).2.2) by rw [rn_3 (by decide) (by decide) a, cb_S, if_pos hp])
        rw [show rlF tc n w 0 0 (0 + 1) (0, tok tc n (tok tc n T).2.2, upd nm 0 (nval tc n T)) = (0, tok tc n (tok tc n T).2.2, upd nm 0 (nval tc n T)) from rfl] at ez
        refine sw_aload_n dX9_readSize_33 rfl ?_
        refine sw_cv0 dX9_readSize_34 cv_X9_194 (rc_of h5 rfl) (n_ends h5 (hT.O hO) hrg.2.2 hn) (fun rr g2 hr => ?_)
        obtain ⟨hO2, ⟨e4, rfl, h5⟩ | ⟨e4, rfl, T', h5⟩⟩ := hr
        · refine sw_ifne (tgt := 42) dX9_readSize_37 (by decide) (fun hz2 => ?_) (fun hz2 => ?_)
          · obtain ⟨p, hp', pe⟩ := isSz_pos hp
            have hp2 := szN_rg p hp'
            have hO3 := hO.tr hO2
            rw [pe] at h5
            refine sw_aload_n dX9_readSize_42 rfl ?_
            refine sw_aload_n dX9_readSize_43 rfl ?_
            refine sw_getf dX9_readSize_44 fl_X9_175 (h5) rfl ?_
            refine sw_cv1 dX9_readSize_47 cv_X9_113 (rc_of h5 rfl) (n_sizes (p := p) h5.M (h6.O hO3) hR) (fun rr g3 hr => ?_)
            obtain ⟨rfl, hS3, f', h6', hR'⟩ := hr
            refine sw_iconst (v := 1) dX9_readSize_50 (by decide) ?_
            exact sw_ireturn dX9_readSize_51 rfl rfl (RdP.ok ez e4 (h5.R hS3) (by omega) hrg.2.2 h6' (by show MR f' (rszW w (nval tc n T).toNatClampNeg); rw [pe, nI_clamp (by omega)]; exact hR') ((hS.O hO3).R hS3) (hO3.V.tr hS3.V))
          · exact absurd hz2 (by decide)
        · refine sw_ifne (tgt := 42) dX9_readSize_37 (by decide) (fun hz2 => ?_) (fun hz2 => ?_)
          · exact absurd rfl hz2
          · refine sw_iconst (v := 0) dX9_readSize_40 (by decide) ?_
            exact sw_ireturn dX9_readSize_41 rfl rfl (RdP.noend ez e4 h5 hrg.2.2 hn (hO.tr hO2))
      · have hp := bz_eq0.mp hp
        have ee : (rnF tc n w 83 0 (tok tc n T)).2.1 = flF 0 2 (tok tc n T).2.1 := by rw [rn_3 (by decide) (by decide) a, cb_S, if_neg hp]
        have hne : ¬ (rnF tc n w 83 0 (tok tc n T)).2.1 = 0 := by rw [ee]; exact fl_ne (by omega) (by omega) (by omega)
        refine sw_aload_n dX9_readSize_23 rfl ?_
        refine sw_iconst (v := 2) dX9_readSize_24 (by decide) ?_
        refine sw_aload_n dX9_readSize_25 rfl ?_
        refine sw_getf dX9_readSize_26 fl_X9_163 (h5) rfl ?_
        refine sw_cv2 dX9_readSize_29 cv_X9_172 (rc_of h5 rfl) (n_fails (k := 2) (w := (tok tc n T).2.1) h5) (fun rr g2 hr => ?_)
        obtain ⟨rfl, h5, hO2⟩ := hr
        exact sw_ireturn dX9_readSize_32 rfl rfl (RdP.bad (rl_bad (s := 83) (v := 0) (i := 0) (c := 0) rfl hne) hne (by rw [ee]; exact h5) (hO.tr hO2))
    · exact absurd hz (by decide)
  · exact absurd ⟨(nval_rg a).1, (nval_rg a).2⟩ b
  · refine sw_ifne (tgt := 13) dX9_readSize_8 (by decide) (fun hz => ?_) (fun hz => ?_)
    · exact absurd rfl hz
    · have ee : (rnF tc n w 83 0 (tok tc n T)).2.1 = flF 0 1 (tok tc n T).2.1 := by rw [rn_n (by decide) (by decide) a]
      have hne : ¬ (rnF tc n w 83 0 (tok tc n T)).2.1 = 0 := by rw [ee]; exact fl_ne (by omega) (by omega) (by omega)
      refine sw_iconst (v := 0) dX9_readSize_11 (by decide) ?_
      exact sw_ireturn dX9_readSize_12 rfl rfl (RdP.bad (rl_bad (s := 83) (v := 0) (i := 0) (c := 0) rfl hne) hne (by rw [ee]; exact h5) hO)
theorem n_readBack {P : Nat} {x0 : Int32} {G : SG} {d n T t a r : Nat} {h : AH} {tc f nm : Nat → Int32} {w : WS} {ra fa va pl sm gt : Int32} (h5 : TX h ra fa n T 0 va pl sm gt) (hT : TpAt h n tc) (hTn : T ≤ n) (hn : n ≤ 400) (h6 : RoAt h f) (hS : SC h) (hR : MR f w) (hC : cIn w t a r) (ht : t + 999 < 2 ^ 30) (hP : P ≤ n) (hx0 : x0 = if 8 ≤ w.n then flF 0 3 P else 0) : SW G mX9_readBack (d + 8) 0 0 0 [.ref 75, .int (nI P), .retAddr 0] [] h (RdP h tc ra fa n T sm w 1 (rlF tc n w 1 2 0 (x0, tok tc n T, nm))) := by
  have hrg := tok_rg (tc := tc) hTn
  have hn8 := hC.2.1
  refine sw_aload_n dX9_readBack_0 rfl ?_
  refine sw_getf dX9_readBack_1 fl_X9_7 (h5) rfl ?_
  refine sw_iconst (v := 1) dX9_readBack_4 (by decide) ?_
  refine sw_iald dX9_readBack_5 (h6) (vp_in_nI (n := 1) (by omega) (by omega)) (hR.1.2.1) ?_
  refine sw_bipush (v := 8) dX9_readBack_6 (by decide) ?_
  refine sw_cmpne (tgt := 18) dX9_readBack_8 (by decide) (fun h8 => ?_) (fun h8 => ?_)
  · have h8 : w.n < 8 := by
      rcases Nat.lt_or_ge w.n 8 with q | q
      · exact q
      · exact absurd (by rw [show w.n = 8 by omega]; rfl) h8
    rw [if_neg (by omega)] at hx0
    subst hx0
    refine sw_aload_n dX9_readBack_18 rfl ?_
    refine sw_iconst (v := 0) dX9_readBack_19 (by decide) ?_
    refine sw_sipush (v := 9999) dX9_readBack_20 (by decide) ?_
    refine sw_cv2 dX9_readBack_23 cv_X9_191 (rc_of h5 rfl) (n_number h5 hT hTn hn) (fun rr g1 hr => ?_)
    obtain ⟨hO, ⟨a, b, rfl, h5⟩ | ⟨⟨a, b⟩, rfl, T', va', pl', h5⟩ | ⟨a, rfl, T', va', pl', h5⟩⟩ := hr
    · refine sw_ifne (tgt := 31) dX9_readBack_26 (by decide) (fun hz => ?_) (fun hz => ?_)
      · refine sw_aload_n dX9_readBack_31 rfl ?_
        refine sw_getf dX9_readBack_32 fl_X9_175 (h5) rfl ?_
        refine sw_istore_n dX9_readBack_35 (by decide) rfl ?_
        refine sw_aload_n dX9_readBack_36 rfl ?_
        refine sw_iload_n dX9_readBack_37 rfl ?_
        refine sw_pcv1 dX9_readBack_38 cv_X9_116 (rc_of h5 rfl) (n_isKey h5.M (h6.O hO) hR hn8) ?_
        refine sw_ifeq (tgt := 54) dX9_readBack_41 (by decide) (fun hk => ?_) (fun hk => ?_)
        · have hk := bz_eq0.mp hk
          have ez := rl_ok (tc := tc) (n := n) (w := w) (v := 1) (i := 0) (c := 1) (nm := nm) rfl (show rnF tc n w 75 0 (tok tc n T) = (nval tc n T, 0, tok tc n (tok tc n T).2.2) by rw [rn_3 (by decide) (by decide) a, cb_K, if_pos (by rw [Bool.not_eq_true'] ; exact Bool.eq_false_iff.mpr hk)])
          have hN := n_num (G := G) (d := d + 6) (lo := 1) (hi := 9) (w := w) (s := 87) h5 (hT.O hO) hrg.2.2 hn (by decide) (by decide) (fun x _ _ => cb_W x)
          refine sw_aload_n dX9_readBack_54 rfl ?_
          refine sw_iconst (v := 1) dX9_readBack_55 (by decide) ?_
          refine sw_bipush (v := 9) dX9_readBack_56 (by decide) ?_
          refine sw_cv2 dX9_readBack_58 cv_X9_191 (rc_of h5 rfl) (hN) (fun rr g2 hr => ?_)
          obtain ⟨hO2, ⟨rfl, x, T2, er, t1, t2, ov, pl2, h5⟩ | ⟨rfl, hne, T', va', pl', gt', h5⟩⟩ := hr
          · have ez := ez.trans (rl_ok (v := 1) (i := 0 + 1) (c := 0) rfl er)
            rw [show rlF tc n w 1 0 (0 + 1 + 1) (0, tok tc n T2, upd (upd nm 0 (nval tc n T)) (0 + 1) x) = (0, tok tc n T2, upd (upd nm 0 (nval tc n T)) 1 x) from rfl] at ez
            have hO3 := hO.tr hO2
            refine sw_ifeq (tgt := 71) dX9_readBack_61 (by decide) (fun hz2 => ?_) (fun hz2 => ?_)
            · exact absurd hz2 (by decide)
            · refine sw_aload_n dX9_readBack_64 rfl ?_
              refine sw_cv0 dX9_readBack_65 cv_X9_194 (rc_of h5 rfl) (n_ends h5 (hT.O hO3) t2 hn) (fun rr g3 hr => ?_)
              obtain ⟨hO4, ⟨e4, rfl, h5⟩ | ⟨e4, rfl, T', h5⟩⟩ := hr
              · have hO5 := hO3.tr hO4
                refine sw_ifne (tgt := 73) dX9_readBack_68 (by decide) (fun hz3 => ?_) (fun hz3 => ?_)
                · refine sw_aload_n dX9_readBack_73 rfl ?_
                  refine sw_iload_n dX9_readBack_74 rfl ?_
                  refine sw_aload_n dX9_readBack_75 rfl ?_
                  refine sw_getf dX9_readBack_76 fl_X9_175 (h5) rfl ?_
                  refine sw_cv2 dX9_readBack_79 cv_X9_119 (rc_of h5 rfl) (n_backs (key := nval tc n T) (wgt := x) h5.M (h6.O hO5) hR h8) (fun rr g4 hr => ?_)
                  obtain ⟨rfl, hS3, f', h6', hR'⟩ := hr
                  refine sw_iflt (tgt := 89) dX9_readBack_82 (by decide) (fun hz4 => ?_) (fun hz4 => ?_)
                  · exact absurd hz4 (nI_pos (by omega))
                  · refine sw_iconst (v := 1) dX9_readBack_85 (by decide) ?_
                    refine sw_goto (tgt := 90) dX9_readBack_86 (by decide) ?_
                    exact sw_ireturn dX9_readBack_90 rfl rfl (RdP.ok ez e4 (h5.R hS3) (by omega) t2 h6' hR' ((hS.O hO5).R hS3) (hO5.V.tr hS3.V))
                · exact absurd hz3 (by decide)
              · refine sw_ifne (tgt := 73) dX9_readBack_68 (by decide) (fun hz3 => ?_) (fun hz3 => ?_)
                · exact absurd rfl hz3
                · refine sw_iconst (v := 0) dX9_readBack_71 (by decide) ?_
                  exact sw_ireturn dX9_readBack_72 rfl rfl (RdP.noend ez e4 h5 t2 hn (hO3.tr hO4))
          · refine sw_ifeq (tgt := 71) dX9_readBack_61 (by decide) (fun hz2 => ?_) (fun hz2 => ?_)
            · refine sw_iconst (v := 0) dX9_readBack_71 (by decide) ?_
              exact sw_ireturn dX9_readBack_72 rfl rfl (RdP.bad (ez.trans (rl_bad (v := 1) (i := 0 + 1) (c := 0) rfl hne)) hne h5 (hO.tr hO2))
            · exact absurd rfl hz2
        · have hk := bz_eq1.mp hk
          have ee : (rnF tc n w 75 0 (tok tc n T)).2.1 = flF 0 2 (tok tc n T).2.1 := by rw [rn_3 (by decide) (by decide) a, cb_K, if_neg (by rw [hk]; decide)]
          have hne : ¬ (rnF tc n w 75 0 (tok tc n T)).2.1 = 0 := by rw [ee]; exact fl_ne (by omega) (by omega) (by omega)
          refine sw_aload_n dX9_readBack_44 rfl ?_
          refine sw_iconst (v := 2) dX9_readBack_45 (by decide) ?_
          refine sw_aload_n dX9_readBack_46 rfl ?_
          refine sw_getf dX9_readBack_47 fl_X9_163 (h5) rfl ?_
          refine sw_cv2 dX9_readBack_50 cv_X9_172 (rc_of h5 rfl) (n_fails (k := 2) (w := (tok tc n T).2.1) h5) (fun rr g2 hr => ?_)
          obtain ⟨rfl, h5, hO2⟩ := hr
          exact sw_ireturn dX9_readBack_53 rfl rfl (RdP.bad (rl_bad (s := 75) (v := 1) (i := 0) (c := 1) rfl hne) hne (by rw [ee]; exact h5) (hO.tr hO2))
      · exact absurd hz (by decide)
    · exact absurd ⟨(nval_rg a).1, (nval_rg a).2⟩ b
    · refine sw_ifne (tgt := 31) dX9_readBack_26 (by decide) (fun hz => ?_) (fun hz => ?_)
      · exact absurd rfl hz
      · have ee : (rnF tc n w 75 0 (tok tc n T)).2.1 = flF 0 1 (tok tc n T).2.1 := by rw [rn_n (by decide) (by decide) a]
        have hne : ¬ (rnF tc n w 75 0 (tok tc n T)).2.1 = 0 := by rw [ee]; exact fl_ne (by omega) (by omega) (by omega)
        refine sw_iconst (v := 0) dX9_readBack_29 (by decide) ?_
        exact sw_ireturn dX9_readBack_30 rfl rfl (RdP.bad (rl_bad (s := 75) (v := 1) (i := 0) (c := 1) rfl hne) hne (by rw [ee]; exact h5) hO)
  · have h8 : w.n = 8 := (nI_eq (b := 8) (by omega) (by omega)).mp h8
    rw [if_pos (by omega)] at hx0
    have hne : ¬ x0 = 0 := by rw [hx0]; exact fl_ne (by omega) (by omega) (by omega)
    refine sw_aload_n dX9_readBack_11 rfl ?_
    refine sw_iconst (v := 3) dX9_readBack_12 (by decide) ?_
    refine sw_iload_n dX9_readBack_13 rfl ?_
    refine sw_cv2 dX9_readBack_14 cv_X9_172 (rc_of h5 rfl) (n_fails (k := 3) (w := P) h5) (fun rr g2 hr => ?_)
    obtain ⟨rfl, h5, hO2⟩ := hr
    exact sw_ireturn dX9_readBack_17 rfl rfl (RdP.bad (rl_n (x := (x0, tok tc n T, nm)) hne) hne (by rw [hx0]; exact h5) hO2)
theorem n_readWeigh {G : SG} {d n T t a r : Nat} {h : AH} {tc f nm : Nat → Int32} {w : WS} {ra fa va pl sm gt : Int32} (h5 : TX h ra fa n T 0 va pl sm gt) (hT : TpAt h n tc) (hTn : T ≤ n) (hn : n ≤ 400) (h6 : RoAt h f) (hS : SC h) (hR : MR f w) (hC : cIn w t a r) (ht : t + 999 < 2 ^ 30) : SW G mX9_readWeigh (d + 8) 0 0 0 [.ref 75, .retAddr 0] [] h (RdP h tc ra fa n T sm w 2 (rlF tc n w 2 2 0 (0, tok tc n T, nm))) := by
  have hn8 := hC.2.1
  have hN := n_num (G := G) (d := d + 6) (lo := 0) (hi := nI w.n - 1) (w := w) (s := 66) h5 hT hTn hn (by decide) (by decide) (fun x _ _ => cb_B hn8 x)
  refine sw_aload_n dX9_readWeigh_0 rfl ?_
  refine sw_iconst (v := 0) dX9_readWeigh_1 (by decide) ?_
  refine sw_aload_n dX9_readWeigh_2 rfl ?_
  refine sw_getf dX9_readWeigh_3 fl_X9_7 (h5) rfl ?_
  refine sw_iconst (v := 1) dX9_readWeigh_6 (by decide) ?_
  refine sw_iald dX9_readWeigh_7 (h6) (vp_in_nI (n := 1) (by omega) (by omega)) (hR.1.2.1) ?_
  refine sw_iconst (v := 1) dX9_readWeigh_8 (by decide) ?_
  refine sw_isub dX9_readWeigh_9 ?_
  refine sw_cv2 dX9_readWeigh_10 cv_X9_191 (rc_of h5 rfl) (hN) (fun rr g1 hr => ?_)
  obtain ⟨hO, ⟨rfl, x, T1, er, t1, t2, ov, pl2, h5⟩ | ⟨rfl, hne, T', va', pl', gt', h5⟩⟩ := hr
  · have ez := rl_ok (tc := tc) (n := n) (w := w) (v := 2) (i := 0) (c := 1) (nm := nm) rfl er
    refine sw_ifne (tgt := 18) dX9_readWeigh_13 (by decide) (fun hz => ?_) (fun hz => ?_)
    · have hN := n_num (G := G) (d := d + 6) (lo := 1) (hi := 9) (w := w) (s := 87) h5 (hT.O hO) t2 hn (by decide) (by decide) (fun x _ _ => cb_W x)
      refine sw_aload_n dX9_readWeigh_18 rfl ?_
      refine sw_getf dX9_readWeigh_19 fl_X9_175 (h5) rfl ?_
      refine sw_istore_n dX9_readWeigh_22 (by decide) rfl ?_
      refine sw_aload_n dX9_readWeigh_23 rfl ?_
      refine sw_iconst (v := 1) dX9_readWeigh_24 (by decide) ?_
      refine sw_bipush (v := 9) dX9_readWeigh_25 (by decide) ?_
      refine sw_cv2 dX9_readWeigh_27 cv_X9_191 (rc_of h5 rfl) (hN) (fun rr g2 hr => ?_)
      obtain ⟨hO2, ⟨rfl, y, T2, er, t3, t4, ov2, pl3, h5⟩ | ⟨rfl, hne, T', va', pl', gt', h5⟩⟩ := hr
      · have ez := ez.trans (rl_ok (v := 2) (i := 0 + 1) (c := 0) rfl er)
        rw [show rlF tc n w 2 0 (0 + 1 + 1) (0, tok tc n T2, upd (upd nm 0 x) (0 + 1) y) = (0, tok tc n T2, upd (upd nm 0 x) 1 y) from rfl] at ez
        have hO3 := hO.tr hO2
        refine sw_ifeq (tgt := 40) dX9_readWeigh_30 (by decide) (fun hz2 => ?_) (fun hz2 => ?_)
        · exact absurd hz2 (by decide)
        · refine sw_aload_n dX9_readWeigh_33 rfl ?_
          refine sw_cv0 dX9_readWeigh_34 cv_X9_194 (rc_of h5 rfl) (n_ends h5 (hT.O hO3) t4 hn) (fun rr g3 hr => ?_)
          obtain ⟨hO4, ⟨e4, rfl, h5⟩ | ⟨e4, rfl, T', h5⟩⟩ := hr
          · have hO5 := hO3.tr hO4
            obtain ⟨j, hj, je⟩ := ba_of (by omega) (ok_B ov)
            have h6 := h6.O hO5
            refine sw_ifne (tgt := 42) dX9_readWeigh_37 (by decide) (fun hz3 => ?_) (fun hz3 => ?_)
            · refine sw_aload_n dX9_readWeigh_42 rfl ?_
              refine sw_getf dX9_readWeigh_43 fl_X9_7 (h5) rfl ?_
              refine sw_bipush (v := 13) dX9_readWeigh_46 (by decide) ?_
              refine sw_iload_n dX9_readWeigh_48 rfl ?_
              rw [je]
              refine sw_iadd dX9_readWeigh_49 ?_
              refine sw_aload_n dX9_readWeigh_50 rfl ?_
              refine sw_getf dX9_readWeigh_51 fl_X9_175 (h5) rfl ?_
              refine sw_iast dX9_readWeigh_54 (h6) (wi (ix2 (a := 13)) (by omega) (by omega)) (fun g4 z4 e4' o4 => ?_)
              rw [wu (show (13 : Int32) + nI j = nI (13 + j) from ix2) (by omega)] at e4'
              have hS3 : SameR g3 g4 := ⟨z4, o4⟩
              refine sw_iconst (v := 1) dX9_readWeigh_55 (by decide) ?_
              exact sw_ireturn dX9_readWeigh_56 rfl rfl (RdP.ok ez e4 (h5.R hS3) (by omega) t4 e4' (by show MR _ (wgtW w x.toNatClampNeg y); rw [je, nI_clamp (by omega)]; exact hR.wgt (by omega)) ((hS.O hO5).R hS3) (hO5.V.tr hS3.V))
            · exact absurd hz3 (by decide)
          · refine sw_ifne (tgt := 42) dX9_readWeigh_37 (by decide) (fun hz3 => ?_) (fun hz3 => ?_)
            · exact absurd rfl hz3
            · refine sw_iconst (v := 0) dX9_readWeigh_40 (by decide) ?_
              exact sw_ireturn dX9_readWeigh_41 rfl rfl (RdP.noend ez e4 h5 t4 hn (hO3.tr hO4))
      · refine sw_ifeq (tgt := 40) dX9_readWeigh_30 (by decide) (fun hz2 => ?_) (fun hz2 => ?_)
        · refine sw_iconst (v := 0) dX9_readWeigh_40 (by decide) ?_
          exact sw_ireturn dX9_readWeigh_41 rfl rfl (RdP.bad (ez.trans (rl_bad (v := 2) (i := 0 + 1) (c := 0) rfl hne)) hne h5 (hO.tr hO2))
        · exact absurd rfl hz2
    · exact absurd hz (by decide)
  · refine sw_ifne (tgt := 18) dX9_readWeigh_13 (by decide) (fun hz => ?_) (fun hz => ?_)
    · exact absurd rfl hz
    · refine sw_iconst (v := 0) dX9_readWeigh_16 (by decide) ?_
      exact sw_ireturn dX9_readWeigh_17 rfl rfl (RdP.bad (rl_bad (v := 2) (i := 0) (c := 1) rfl hne) hne h5 hO)
theorem n_readTick {G : SG} {d n T t a r : Nat} {h : AH} {tc f nm : Nat → Int32} {w : WS} {ra fa va pl sm gt : Int32} (h5 : TX h ra fa n T 0 va pl sm gt) (hT : TpAt h n tc) (hTn : T ≤ n) (hn : n ≤ 400) (h6 : RoAt h f) (hS : SC h) (hR : MR f w) (hC : cIn w t a r) (ht : t + 999 < 2 ^ 30) : SW G mX9_readTick (d + 8) 0 0 0 [.ref 75] [] h (RdP h tc ra fa n T sm w 4 (rlF tc n w 4 1 0 (0, tok tc n T, nm))) := by
  have hN := n_num (G := G) (d := d + 6) (lo := 1) (hi := 999) (w := w) (s := 84) h5 hT hTn hn (by decide) (by decide) (fun x _ _ => cb_T x)
  refine sw_aload_n dX9_readTick_0 rfl ?_
  refine sw_iconst (v := 1) dX9_readTick_1 (by decide) ?_
  refine sw_sipush (v := 999) dX9_readTick_2 (by decide) ?_
  refine sw_cv2 dX9_readTick_5 cv_X9_191 (rc_of h5 rfl) (hN) (fun rr g1 hr => ?_)
  obtain ⟨hO, ⟨rfl, x, T1, er, t1, t2, ov, pl2, h5⟩ | ⟨rfl, hne, T', va', pl', gt', h5⟩⟩ := hr
  · have ez := rl_ok (tc := tc) (n := n) (w := w) (v := 4) (i := 0) (c := 0) (nm := nm) rfl er
    rw [show rlF tc n w 4 0 (0 + 1) (0, tok tc n T1, upd nm 0 x) = (0, tok tc n T1, upd nm 0 x) from rfl] at ez
    refine sw_ifeq (tgt := 33) dX9_readTick_8 (by decide) (fun hz => ?_) (fun hz => ?_)
    · exact absurd hz (by decide)
    · refine sw_aload_n dX9_readTick_11 rfl ?_
      refine sw_cv0 dX9_readTick_12 cv_X9_194 (rc_of h5 rfl) (n_ends h5 (hT.O hO) t2 hn) (fun rr g2 hr => ?_)
      obtain ⟨hO2, ⟨e4, rfl, h5⟩ | ⟨e4, rfl, T', h5⟩⟩ := hr
      · refine sw_ifeq (tgt := 33) dX9_readTick_15 (by decide) (fun hz2 => ?_) (fun hz2 => ?_)
        · exact absurd hz2 (by decide)
        · have hO3 := hO.tr hO2
          obtain ⟨k, hk, ke⟩ := t999_of (ok_T ov)
          subst ke
          refine sw_aload_n dX9_readTick_18 rfl ?_
          refine sw_aload_n dX9_readTick_19 rfl ?_
          refine sw_getf dX9_readTick_20 fl_X9_175 (h5) rfl ?_
          refine sw_cv1 dX9_readTick_23 cv_X9_139 (rc_of h5 rfl) (n_ticks (k := k) h5.M (h6.O hO3) hR hC (by omega)) (fun rr g3 hr => ?_)
          obtain ⟨rfl, hS3, f', h6', hR'⟩ := hr
          rw [hC.2.2.2.2.2.1.1, nI_add]
          refine sw_iflt (tgt := 33) dX9_readTick_26 (by decide) (fun hz4 => ?_) (fun hz4 => ?_)
          · exact absurd hz4 (nI_pos (by omega))
          · refine sw_iconst (v := 1) dX9_readTick_29 (by decide) ?_
            refine sw_goto (tgt := 34) dX9_readTick_30 (by decide) ?_
            exact sw_ireturn dX9_readTick_34 rfl rfl (RdP.ok ez e4 (h5.R hS3) t1 t2 h6' hR' ((hS.O hO3).R hS3) (hO3.V.tr hS3.V))
      · refine sw_ifeq (tgt := 33) dX9_readTick_15 (by decide) (fun hz2 => ?_) (fun hz2 => ?_)
        · refine sw_iconst (v := 0) dX9_readTick_33 (by decide) ?_
          exact sw_ireturn dX9_readTick_34 rfl rfl (RdP.noend ez e4 h5 t2 hn (hO.tr hO2))
        · exact absurd rfl hz2
  · refine sw_ifeq (tgt := 33) dX9_readTick_8 (by decide) (fun hz => ?_) (fun hz => ?_)
    · refine sw_iconst (v := 0) dX9_readTick_33 (by decide) ?_
      exact sw_ireturn dX9_readTick_34 rfl rfl (RdP.bad (rl_bad (v := 4) (i := 0) (c := 0) rfl hne) hne h5 hO)
    · exact absurd rfl hz
theorem n_readHold0 {G : SG} {d n T t a r : Nat} {h : AH} {tc f nm : Nat → Int32} {w : WS} {ra fa va pl sm gt : Int32} (h5 : TX h ra fa n T 0 va pl sm gt) (hT : TpAt h n tc) (hTn : T ≤ n) (hn : n ≤ 400) (h6 : RoAt h f) (hS : SC h) (hR : MR f w) (hC : cIn w t a r) (ht : t + 999 < 2 ^ 30) : SW G mX9_readHold (d + 8) 0 0 0 [.ref 75, .int 0] [] h (RdP h tc ra fa n T sm w 5 (rlF tc n w 5 1 0 (0, tok tc n T, nm))) := by
  have hN := n_num (G := G) (d := d + 6) (lo := 1 - 0) (hi := 16) (w := w) (s := 82) h5 hT hTn hn (by decide) (by decide) (fun x _ _ => cb_R x)
  refine sw_aload_n dX9_readHold_0 rfl ?_
  refine sw_iconst (v := 1) dX9_readHold_1 (by decide) ?_
  refine sw_iload_n dX9_readHold_2 rfl ?_
  refine sw_isub dX9_readHold_3 ?_
  refine sw_iload_n dX9_readHold_4 rfl ?_
  refine sw_ifne (tgt := 13) dX9_readHold_5 (by decide) (fun hw => ?_) (fun hw => ?_)
  · exact absurd rfl hw
  refine sw_bipush (v := 16) dX9_readHold_8 (by decide) ?_
  refine sw_goto (tgt := 15) dX9_readHold_10 (by decide) ?_
  refine sw_cv2 dX9_readHold_15 cv_X9_191 (rc_of h5 rfl) (hN) (fun rr g1 hr => ?_)
  obtain ⟨hO, ⟨rfl, x, T1, er, t1, t2, ov, pl2, h5⟩ | ⟨rfl, hne, T', va', pl', gt', h5⟩⟩ := hr
  · have ez := rl_ok (tc := tc) (n := n) (w := w) (v := 5) (i := 0) (c := 0) (nm := nm) rfl er
    rw [show rlF tc n w 5 0 (0 + 1) (0, tok tc n T1, upd nm 0 x) = (0, tok tc n T1, upd nm 0 x) from rfl] at ez
    refine sw_ifeq (tgt := 28) dX9_readHold_18 (by decide) (fun hz => ?_) (fun hz => ?_)
    · exact absurd hz (by decide)
    · refine sw_aload_n dX9_readHold_21 rfl ?_
      refine sw_cv0 dX9_readHold_22 cv_X9_194 (rc_of h5 rfl) (n_ends h5 (hT.O hO) t2 hn) (fun rr g2 hr => ?_)
      obtain ⟨hO2, ⟨e4, rfl, h5⟩ | ⟨e4, rfl, T', h5⟩⟩ := hr
      · refine sw_ifne (tgt := 30) dX9_readHold_25 (by decide) (fun hz2 => ?_) (fun hz2 => ?_)
        · have hO3 := hO.tr hO2
          obtain ⟨k, hk1, hk2, ke⟩ := rm_of (ok_R ov)
          subst ke
          refine sw_aload_n dX9_readHold_30 rfl ?_
          refine sw_iload_n dX9_readHold_31 rfl ?_
          refine sw_aload_n dX9_readHold_32 rfl ?_
          refine sw_getf dX9_readHold_33 fl_X9_175 (h5) rfl ?_
          refine sw_cv2 dX9_readHold_36 cv_X9_136 (rc_of h5 rfl) (n_holds0 (r' := k) h5.M (h6.O hO3) hR hC (by omega) ⟨hk1, hk2⟩) (fun rr g3 hr => ?_)
          obtain ⟨rfl, hS3, f', h6', hR'⟩ := hr
          refine sw_iconst (v := 1) dX9_readHold_39 (by decide) ?_
          exact sw_ireturn dX9_readHold_40 rfl rfl (RdP.ok ez e4 (h5.R hS3) t1 t2 h6' hR' ((hS.O hO3).R hS3) (hO3.V.tr hS3.V))
        · exact absurd hz2 (by decide)
      · refine sw_ifne (tgt := 30) dX9_readHold_25 (by decide) (fun hz2 => ?_) (fun hz2 => ?_)
        · exact absurd rfl hz2
        · refine sw_iconst (v := 0) dX9_readHold_28 (by decide) ?_
          exact sw_ireturn dX9_readHold_29 rfl rfl (RdP.noend ez e4 h5 t2 hn (hO.tr hO2))
  · refine sw_ifeq (tgt := 28) dX9_readHold_18 (by decide) (fun hz => ?_) (fun hz => ?_)
    · refine sw_iconst (v := 0) dX9_readHold_28 (by decide) ?_
      exact sw_ireturn dX9_readHold_29 rfl rfl (RdP.bad (rl_bad (v := 5) (i := 0) (c := 0) rfl hne) hne h5 hO)
    · exact absurd rfl hz
theorem n_readHold1 {G : SG} {d n T t a r : Nat} {h : AH} {tc f nm : Nat → Int32} {w : WS} {ra fa va pl sm gt : Int32} (h5 : TX h ra fa n T 0 va pl sm gt) (hT : TpAt h n tc) (hTn : T ≤ n) (hn : n ≤ 400) (h6 : RoAt h f) (hS : SC h) (hR : MR f w) (hC : cIn w t a r) (ht : t + 999 < 2 ^ 30) : SW G mX9_readHold (d + 8) 0 0 0 [.ref 75, .int 1] [] h (RdP h tc ra fa n T sm w 6 (rlF tc n w 6 1 0 (0, tok tc n T, nm))) := by
  have hN := n_num (G := G) (d := d + 6) (lo := 1 - 1) (hi := 99) (w := w) (s := 65) h5 hT hTn hn (by decide) (by decide) (fun x _ _ => cb_A x)
  refine sw_aload_n dX9_readHold_0 rfl ?_
  refine sw_iconst (v := 1) dX9_readHold_1 (by decide) ?_
  refine sw_iload_n dX9_readHold_2 rfl ?_
  refine sw_isub dX9_readHold_3 ?_
  refine sw_iload_n dX9_readHold_4 rfl ?_
  refine sw_ifne (tgt := 13) dX9_readHold_5 (by decide) (fun hw => ?_) (fun hw => ?_)
  rotate_left
  · exact absurd hw (by decide)
  refine sw_bipush (v := 99) dX9_readHold_13 (by decide) ?_
  refine sw_cv2 dX9_readHold_15 cv_X9_191 (rc_of h5 rfl) (hN) (fun rr g1 hr => ?_)
  obtain ⟨hO, ⟨rfl, x, T1, er, t1, t2, ov, pl2, h5⟩ | ⟨rfl, hne, T', va', pl', gt', h5⟩⟩ := hr
  · have ez := rl_ok (tc := tc) (n := n) (w := w) (v := 6) (i := 0) (c := 0) (nm := nm) rfl er
    rw [show rlF tc n w 6 0 (0 + 1) (0, tok tc n T1, upd nm 0 x) = (0, tok tc n T1, upd nm 0 x) from rfl] at ez
    refine sw_ifeq (tgt := 28) dX9_readHold_18 (by decide) (fun hz => ?_) (fun hz => ?_)
    · exact absurd hz (by decide)
    · refine sw_aload_n dX9_readHold_21 rfl ?_
      refine sw_cv0 dX9_readHold_22 cv_X9_194 (rc_of h5 rfl) (n_ends h5 (hT.O hO) t2 hn) (fun rr g2 hr => ?_)
      obtain ⟨hO2, ⟨e4, rfl, h5⟩ | ⟨e4, rfl, T', h5⟩⟩ := hr
      · refine sw_ifne (tgt := 30) dX9_readHold_25 (by decide) (fun hz2 => ?_) (fun hz2 => ?_)
        · have hO3 := hO.tr hO2
          obtain ⟨k, hk, ke⟩ := a99_of (ok_A ov)
          subst ke
          refine sw_aload_n dX9_readHold_30 rfl ?_
          refine sw_iload_n dX9_readHold_31 rfl ?_
          refine sw_aload_n dX9_readHold_32 rfl ?_
          refine sw_getf dX9_readHold_33 fl_X9_175 (h5) rfl ?_
          refine sw_cv2 dX9_readHold_36 cv_X9_136 (rc_of h5 rfl) (n_holds1 (a' := k) h5.M (h6.O hO3) hR hC (by omega) hk) (fun rr g3 hr => ?_)
          obtain ⟨rfl, hS3, f', h6', hR'⟩ := hr
          refine sw_iconst (v := 1) dX9_readHold_39 (by decide) ?_
          exact sw_ireturn dX9_readHold_40 rfl rfl (RdP.ok ez e4 (h5.R hS3) t1 t2 h6' hR' ((hS.O hO3).R hS3) (hO3.V.tr hS3.V))
        · exact absurd hz2 (by decide)
      · refine sw_ifne (tgt := 30) dX9_readHold_25 (by decide) (fun hz2 => ?_) (fun hz2 => ?_)
        · exact absurd rfl hz2
        · refine sw_iconst (v := 0) dX9_readHold_28 (by decide) ?_
          exact sw_ireturn dX9_readHold_29 rfl rfl (RdP.noend ez e4 h5 t2 hn (hO.tr hO2))
  · refine sw_ifeq (tgt := 28) dX9_readHold_18 (by decide) (fun hz => ?_) (fun hz => ?_)
    · refine sw_iconst (v := 0) dX9_readHold_28 (by decide) ?_
      exact sw_ireturn dX9_readHold_29 rfl rfl (RdP.bad (rl_bad (v := 6) (i := 0) (c := 0) rfl hne) hne h5 hO)
    · exact absurd rfl hz
