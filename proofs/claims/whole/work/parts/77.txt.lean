/-! numbers and gateways, by the reference -/
theorem ds_bk {tc : Nat → Int32} {n T : Nat} : (48 ≤ chF tc n (tkP tc n T) ∧ chF tc n (tkP tc n T) ≤ 57) ↔ tkK0 tc n T = 3 := by
  unfold tkK0
  rw [kd3]
  unfold chF
  by_cases hi : tkP tc n T < n
  · rw [if_pos hi]; exact ⟨fun q => ⟨hi, q⟩, fun q => q.2⟩
  · rw [if_neg hi]; exact ⟨fun q => absurd q.1 (by decide), fun q => absurd q.1 hi⟩
abbrev NumP (h : AH) (tc : Nat → Int32) (ra fa : Int32) (n T : Nat) (sm gt lo hi : Int32) (r : Option Value) (h' : AH) : Prop :=
  SameO h h' ∧ (((tok tc n T).1 = 3 ∧ (lo ≤ nval tc n T ∧ nval tc n T ≤ hi) ∧ r = some (.int 1) ∧ TX h' ra fa n (tok tc n T).2.2 0 (nval tc n T) (nI (tok tc n T).2.1) sm gt) ∨ (((tok tc n T).1 = 3 ∧ ¬ (lo ≤ nval tc n T ∧ nval tc n T ≤ hi)) ∧ r = some (.int 0) ∧ ∃ T' va' pl', TX h' ra fa n T' (flF 0 2 (tok tc n T).2.1) va' pl' sm gt) ∨ (¬ (tok tc n T).1 = 3 ∧ r = some (.int 0) ∧ ∃ T' va' pl', TX h' ra fa n T' (flF 0 1 (tok tc n T).2.1) va' pl' sm gt))
theorem n_number {G : SG} {d n T : Nat} {h : AH} {tc : Nat → Int32} {ra fa va pl sm gt lo hi : Int32} (h5 : TX h ra fa n T 0 va pl sm gt) (hT : TpAt h n tc) (hTn : T ≤ n) (hn : n ≤ 400) : SW G mX9_number (d + 1) 0 0 0 [.ref 75, .int lo, .int hi] [] h (NumP h tc ra fa n T sm gt lo hi) := by
  have hK := tok_K (tc := tc) (n := n) (T := T)
  have hPr := tkP_rg (tp := tc) hTn
  refine sw_aload_n dX9_number_0 rfl ?_
  refine sw_cv0 dX9_number_1 cv_X9_160 (rc_of h5 rfl) (n_here h5 hT hTn hn) (fun r g1 hr => ?_)
  obtain ⟨rfl, h5, hO⟩ := hr
  refine sw_bipush (v := 48) dX9_number_4 (by decide) ?_
  refine sw_bipush (v := 57) dX9_number_6 (by decide) ?_
  refine sw_pcs3 dX9_number_8 cs_X9_39 (n_in) ?_
  refine sw_ifne (tgt := 24) dX9_number_11 (by decide) (fun hd => ?_) (fun hd => ?_)
  · have hd : tkK0 tc n T = 3 := ds_bk.mp (bz_eq1.mp hd)
    obtain ⟨he, hlt⟩ := tok_3 hd
    have hErg := exB_rg (tp := tc) (n := n) (k := 3) (n - tkP tc n T) (tkP tc n T)
    have hnv : nval tc n T = nmF tc (exB tc n 3 (n - tkP tc n T) (tkP tc n T) - tkP tc n T) (tkP tc n T) 0 := by unfold nval; rw [he]
    generalize hPe : tkP tc n T = P at *
    generalize hEe : exB tc n 3 (n - P) P = E at *
    have fin : ∀ (g : AH) (a : Int32), (E - P ≤ 4 → a = nval tc n T) → TX g ra fa n E 0 a (nI P) sm gt → SameO h g → SW G mX9_number (d + 1) 0 0 124 [.ref 75, .int lo, .int hi] [] g (NumP h tc ra fa n T sm gt lo hi) := by
      intro g a ha h5 hO
      refine sw_aload_n dX9_number_124 rfl ?_
      refine sw_getf dX9_number_125 fl_X9_154 (h5) rfl ?_
      refine sw_aload_n dX9_number_128 rfl ?_
      refine sw_getf dX9_number_129 fl_X9_163 (h5) rfl ?_
      refine sw_isub dX9_number_132 ?_
      rw [subN (by omega)]
      refine sw_iconst (v := 4) dX9_number_133 (by decide) ?_
      refine sw_cmple (tgt := 147) dX9_number_134 (by decide) (fun hq => ?_) (fun hq => ?_)
      · have hq : E - P ≤ 4 := by rw [show (4 : Int32) = nI 4 from rfl, nI_leI (by omega) (by omega)] at hq; exact hq
        have e3 : (tok tc n T).1 = 3 := by rw [he, if_neg (by omega)]
        have e1 : (tok tc n T).2.1 = P := by rw [he]
        have e2 : (tok tc n T).2.2 = E := by rw [he]
        have ha := ha hq
        refine sw_aload_n dX9_number_147 rfl ?_
        refine sw_getf dX9_number_148 fl_X9_175 (h5) rfl ?_
        refine sw_iload_n dX9_number_151 rfl ?_
        refine sw_iload_n dX9_number_152 rfl ?_
        refine sw_pcs3 dX9_number_153 cs_X9_39 (n_in) ?_
        refine sw_ifne (tgt := 171) dX9_number_156 (by decide) (fun hv => ?_) (fun hv => ?_)
        · have hv := bz_eq1.mp hv
          rw [ha] at hv h5
          refine sw_iconst (v := 1) dX9_number_171 (by decide) ?_
          refine sw_goto (tgt := 176) dX9_number_172 (by decide) ?_
          exact sw_ireturn dX9_number_176 rfl rfl (⟨hO, Or.inl ⟨e3, hv, rfl, by rw [e1, e2]; exact h5⟩⟩)
        · have hv := bz_eq0.mp hv
          rw [ha] at hv
          refine sw_aload_n dX9_number_159 rfl ?_
          refine sw_iconst (v := 2) dX9_number_160 (by decide) ?_
          refine sw_aload_n dX9_number_161 rfl ?_
          refine sw_getf dX9_number_162 fl_X9_163 (h5) rfl ?_
          refine sw_cv2 dX9_number_165 cv_X9_172 (rc_of h5 rfl) (n_fails (k := 2) (w := P) h5) (fun r g2 hr => ?_)
          obtain ⟨rfl, h5, hO2⟩ := hr
          refine sw_ifeq (tgt := 175) dX9_number_168 (by decide) (fun hz => ?_) (fun hz => ?_)
          · refine sw_iconst (v := 0) dX9_number_175 (by decide) ?_
            exact sw_ireturn dX9_number_176 rfl rfl (⟨hO.tr hO2, Or.inr (Or.inl ⟨⟨e3, hv⟩, rfl, _, _, _, by rw [e1]; exact h5⟩)⟩)
          · exact absurd rfl hz
      · have hq : 4 < E - P := by
          rcases Nat.lt_or_ge 4 (E - P) with z | z
          · exact z
          · exact absurd (nI_le (b := 4) z (by omega)) hq
        have e3 : ¬ (tok tc n T).1 = 3 := by rw [he, if_pos hq]; show ¬ 5 = 3; decide
        have e1 : (tok tc n T).2.1 = P := by rw [he]
        refine sw_aload_n dX9_number_137 rfl ?_
        refine sw_iconst (v := 1) dX9_number_138 (by decide) ?_
        refine sw_aload_n dX9_number_139 rfl ?_
        refine sw_getf dX9_number_140 fl_X9_163 (h5) rfl ?_
        refine sw_cv2 dX9_number_143 cv_X9_172 (rc_of h5 rfl) (n_fails (k := 1) (w := P) h5) (fun r g2 hr => ?_)
        obtain ⟨rfl, h5, hO2⟩ := hr
        exact sw_ireturn dX9_number_146 rfl rfl (⟨hO.tr hO2, Or.inr (Or.inr ⟨e3, rfl, _, _, _, by rw [e1]; exact h5⟩)⟩)
    have loop : ∀ (c i : Nat) (a : Int32) (g : AH), i + c = n → P ≤ i → exB tc n 3 c i = E → (E - P ≤ 4 → nmF tc (E - i) i a = nval tc n T) → TX g ra fa n i 0 a (nI P) sm gt → SameO h g → SW G mX9_number (d + 1) 0 0 37 [.ref 75, .int lo, .int hi] [] g (NumP h tc ra fa n T sm gt lo hi) := by
      intro c
      induction c with
      | zero =>
        intro i a g hic hPi hE hv h5 hO
        have hE : i = E := hE
        refine sw_aload_n dX9_number_37 rfl ?_
        refine sw_getf dX9_number_38 fl_X9_154 (h5) rfl ?_
        refine sw_aload_n dX9_number_41 rfl ?_
        refine sw_getf dX9_number_42 fl_X9_148 (h5) rfl ?_
        refine sw_cmpge (tgt := 124) dX9_number_45 (by decide) (fun hc => ?_) (fun hc => ?_)
        · refine fin g a (fun q => ?_) (by rw [← hE]; exact h5) hO
          have := hv q
          rw [hE, Nat.sub_self, nmF] at this
          exact this
        · exact absurd (nI_le (by omega) (by omega)) hc
      | succ c ih =>
        intro i a g hic hPi hE hv h5 hO
        obtain ⟨tp, h83, htp⟩ := hT.O hO
        have hti := (htp i (by omega)).1
        refine sw_aload_n dX9_number_37 rfl ?_
        refine sw_getf dX9_number_38 fl_X9_154 (h5) rfl ?_
        refine sw_aload_n dX9_number_41 rfl ?_
        refine sw_getf dX9_number_42 fl_X9_148 (h5) rfl ?_
        refine sw_cmpge (tgt := 124) dX9_number_45 (by decide) (fun hc => ?_) (fun hc => ?_)
        · exact absurd hc (nI_ge (by omega) (by omega))
        · refine sw_aload_n dX9_number_48 rfl ?_
          refine sw_getf dX9_number_49 fl_X9_32 (h5) rfl ?_
          refine sw_aload_n dX9_number_52 rfl ?_
          refine sw_getf dX9_number_53 fl_X9_154 (h5) rfl ?_
          refine sw_iald dX9_number_56 (h83) (vp_in_nI (by omega) (by omega)) (nIat (by omega) hti) ?_
          refine sw_bipush (v := 48) dX9_number_57 (by decide) ?_
          refine sw_bipush (v := 57) dX9_number_59 (by decide) ?_
          refine sw_pcs3 dX9_number_61 cs_X9_39 (n_in) ?_
          refine sw_ifeq (tgt := 124) dX9_number_64 (by decide) (fun hl => ?_) (fun hl => ?_)
          · have hl := bz_eq0.mp hl
            have e0 : exB tc n 3 (c + 1) i = i := by rw [exB, if_neg (fun q => hl (kd3.mp q).2)]
            rw [e0] at hE
            refine fin g a (fun q => ?_) (by rw [← hE]; exact h5) hO
            have := hv q
            rw [hE, Nat.sub_self, nmF] at this
            exact this
          · have hl := bz_eq1.mp hl
            have e0 : exB tc n 3 (c + 1) i = exB tc n 3 c (i + 1) := by rw [exB, if_pos (kd3.mpr ⟨by omega, hl⟩)]
            have hrg := exB_rg (tp := tc) (n := n) (k := 3) c (i + 1)
            rw [e0] at hE
            have step : ∀ x : Int32, (E - P ≤ 4 → x = a * 10 + tc i - 48) → SW G mX9_number (d + 1) 0 0 108 [.ref 75, .int lo, .int hi] [.int x, .ref 75] g (NumP h tc ra fa n T sm gt lo hi) := by
              intro x hx
              refine sw_puti dX9_number_108 fl_X9_175 (h5) (Nat.le_of_ble_eq_true rfl) (fun g2 z2 e2 o2 => ?_)
              have h5 : TX g2 ra fa n i 0 x (nI P) sm gt := e2
              refine sw_aload_n dX9_number_111 rfl ?_
              refine sw_dup dX9_number_112 rfl ?_
              refine sw_getf dX9_number_113 fl_X9_154 (h5) rfl ?_
              refine sw_iconst (v := 1) dX9_number_116 (by decide) ?_
              refine sw_iadd dX9_number_117 ?_
              refine sw_puti dX9_number_118 fl_X9_154 (h5) (Nat.le_of_ble_eq_true rfl) (fun g3 z3 e3 o3 => ?_)
              have e3 : TX g3 ra fa n (i + 1) 0 x (nI P) sm gt := by rw [nI_1] at e3; exact e3
              refine sw_goto (tgt := 37) dX9_number_121 (by decide) ?_
              refine ih (i + 1) x g3 (by omega) (by omega) hE (fun q => ?_) e3 (hO.tr (SameO.tr ⟨z2, o2⟩ ⟨z3, o3⟩))
              have := hv q
              rw [show E - i = (E - (i + 1)) + 1 by omega, nmF, ← hx q] at this
              exact this
            refine sw_aload_n dX9_number_67 rfl ?_
            refine sw_aload_n dX9_number_68 rfl ?_
            refine sw_getf dX9_number_69 fl_X9_154 (h5) rfl ?_
            refine sw_aload_n dX9_number_72 rfl ?_
            refine sw_getf dX9_number_73 fl_X9_163 (h5) rfl ?_
            refine sw_isub dX9_number_76 ?_
            rw [subN hPi]
            refine sw_iconst (v := 4) dX9_number_77 (by decide) ?_
            refine sw_cmpge (tgt := 104) dX9_number_78 (by decide) (fun hk4 => ?_) (fun hk4 => ?_)
            · have hk4 : 4 ≤ i - P := by rw [show (4 : Int32) = nI 4 from rfl, nI_leI (by omega) (by omega)] at hk4; exact hk4
              refine sw_aload_n dX9_number_104 rfl ?_
              refine sw_getf dX9_number_105 fl_X9_175 (h5) rfl ?_
              exact step _ (fun q => by omega)
            · refine sw_bipush (v := 10) dX9_number_81 (by decide) ?_
              refine sw_aload_n dX9_number_83 rfl ?_
              refine sw_getf dX9_number_84 fl_X9_175 (h5) rfl ?_
              refine sw_imul dX9_number_87 ?_
              refine sw_aload_n dX9_number_88 rfl ?_
              refine sw_getf dX9_number_89 fl_X9_32 (h5) rfl ?_
              refine sw_aload_n dX9_number_92 rfl ?_
              refine sw_getf dX9_number_93 fl_X9_154 (h5) rfl ?_
              refine sw_iald dX9_number_96 (h83) (vp_in_nI (by omega) (by omega)) (nIat (by omega) hti) ?_
              refine sw_iadd dX9_number_97 ?_
              refine sw_bipush (v := 48) dX9_number_98 (by decide) ?_
              refine sw_isub dX9_number_100 ?_
              refine sw_goto (tgt := 108) dX9_number_101 (by decide) ?_
              exact step _ (fun q => by rw [Int32.mul_comm])
    refine sw_aload_n dX9_number_24 rfl ?_
    refine sw_aload_n dX9_number_25 rfl ?_
    refine sw_getf dX9_number_26 fl_X9_154 (h5) rfl ?_
    refine sw_puti dX9_number_29 fl_X9_163 (h5) (Nat.le_of_ble_eq_true rfl) (fun g2 z2 e2 o2 => ?_)
    have h5 : TX g2 ra fa n P 0 va (nI P) sm gt := e2
    refine sw_aload_n dX9_number_32 rfl ?_
    refine sw_iconst (v := 0) dX9_number_33 (by decide) ?_
    refine sw_puti dX9_number_34 fl_X9_175 (h5) (Nat.le_of_ble_eq_true rfl) (fun g3 z3 e3 o3 => ?_)
    have e3 : TX g3 ra fa n P 0 0 (nI P) sm gt := e3
    exact loop (n - P) P 0 g3 (by omega) (Nat.le_refl _) hEe (fun q => by rw [hnv]) e3 (hO.tr (SameO.tr ⟨z2, o2⟩ ⟨z3, o3⟩))
  · have hd : ¬ tkK0 tc n T = 3 := fun q => bz_eq0.mp hd (ds_bk.mpr q)
    have h3 : ¬ (tok tc n T).1 = 3 := fun q => hd (hK.2.1 q)
    refine sw_aload_n dX9_number_14 rfl ?_
    refine sw_iconst (v := 1) dX9_number_15 (by decide) ?_
    refine sw_aload_n dX9_number_16 rfl ?_
    refine sw_getf dX9_number_17 fl_X9_154 (h5) rfl ?_
    refine sw_cv2 dX9_number_20 cv_X9_172 (rc_of h5 rfl) (n_fails (k := 1) (w := tkP tc n T) h5) (fun r g2 hr => ?_)
    obtain ⟨rfl, h5, hO2⟩ := hr
    exact sw_ireturn dX9_number_23 rfl rfl (⟨hO.tr hO2, Or.inr (Or.inr ⟨h3, rfl, _, _, _, by rw [hK.1]; exact h5⟩)⟩)
/-! what stands behind a verb, number by number -/
theorem rn_3 {tc : Nat → Int32} {n T : Nat} {w : WS} {s : Int32} (h2 : ¬ s = 72) (h1 : ¬ s = 71) (h : (tok tc n T).1 = 3) : rnF tc n w s 0 (tok tc n T) = (nval tc n T, if cbF w s (nval tc n T) = true then 0 else flF 0 2 (tok tc n T).2.1, tok tc n (tok tc n T).2.2) := by
  unfold rnF
  rw [if_neg h2, if_neg (fun q => h1 q.1), if_pos h]
  rfl
theorem rn_n {tc : Nat → Int32} {n T : Nat} {w : WS} {s : Int32} (h2 : ¬ s = 72) (h1 : ¬ s = 71) (h : ¬ (tok tc n T).1 = 3) : rnF tc n w s 0 (tok tc n T) = (0, flF 0 1 (tok tc n T).2.1, tok tc n T) := by
  unfold rnF
  rw [if_neg h2, if_neg (fun q => h1 q.1), if_neg h]
theorem tok_rg {tc : Nat → Int32} {n T : Nat} (h : T ≤ n) : T ≤ (tok tc n T).2.1 ∧ (tok tc n T).2.1 ≤ (tok tc n T).2.2 ∧ (tok tc n T).2.2 ≤ n := ⟨(tkP_rg h).1, (tkT_rg h).1, (tkT_rg h).2.1⟩
abbrev NxP (h : AH) (tc : Nat → Int32) (ra fa : Int32) (n T : Nat) (w : WS) (s sm : Int32) (Q : Nat → Int32 → AH → Prop) (r : Option Value) (h' : AH) : Prop :=
  SameO h h' ∧ ((r = some (.int 1) ∧ ∃ (x : Int32) (T1 : Nat), rnF tc n w s 0 (tok tc n T) = (x, 0, tok tc n T1) ∧ T ≤ T1 ∧ T1 ≤ n ∧ okV w s x ∧ Q T1 x h') ∨ (r = some (.int 0) ∧ ¬ (rnF tc n w s 0 (tok tc n T)).2.1 = 0 ∧ ∃ T' va' pl' gt', TX h' ra fa n T' (rnF tc n w s 0 (tok tc n T)).2.1 va' pl' sm gt'))
theorem n_num {G : SG} {d n T : Nat} {h : AH} {tc : Nat → Int32} {w : WS} {ra fa va pl sm gt lo hi s : Int32} (h5 : TX h ra fa n T 0 va pl sm gt) (hT : TpAt h n tc) (hTn : T ≤ n) (hn : n ≤ 400) (h2 : ¬ s = 72) (h1 : ¬ s = 71) (hcb : ∀ x : Int32, 0 ≤ x → x ≤ 9999 → (cbF w s x = true ↔ lo ≤ x ∧ x ≤ hi)) : SW G mX9_number (d + 1) 0 0 0 [.ref 75, .int lo, .int hi] [] h (NxP h tc ra fa n T w s sm (fun T1 x h' => ∃ pl', TX h' ra fa n T1 0 x pl' sm gt)) := by
  have hrg := tok_rg (tc := tc) hTn
  refine (n_number h5 hT hTn hn).mono (fun r h' hq => ?_)
  obtain ⟨hO, ⟨a, b, c, e⟩ | ⟨⟨a, b⟩, c, T', va', pl', e⟩ | ⟨a, c, T', va', pl', e⟩⟩ := hq
  · have hb := (hcb _ (nval_rg a).1 (nval_rg a).2).mpr b
    refine ⟨hO, Or.inl ⟨c, nval tc n T, (tok tc n T).2.2, by rw [rn_3 h2 h1 a, if_pos hb], by omega, hrg.2.2, ?_, _, e⟩⟩
    unfold okV
    rw [if_neg h2, if_neg h1]
    exact hb
  · have hb : ¬ cbF w s (nval tc n T) = true := fun q => b ((hcb _ (nval_rg a).1 (nval_rg a).2).mp q)
    have ee : (rnF tc n w s 0 (tok tc n T)).2.1 = flF 0 2 (tok tc n T).2.1 := by rw [rn_3 h2 h1 a, if_neg hb]
    refine ⟨hO, Or.inr ⟨c, ?_, T', va', pl', gt, by rw [ee]; exact e⟩⟩
    rw [ee]
    exact fl_ne (by omega) (by omega) (by omega)
  · have ee : (rnF tc n w s 0 (tok tc n T)).2.1 = flF 0 1 (tok tc n T).2.1 := by rw [rn_n h2 h1 a]
    refine ⟨hO, Or.inr ⟨c, ?_, T', va', pl', gt, by rw [ee]; exact e⟩⟩
    rw [ee]
    exact fl_ne (by omega) (by omega) (by omega)
theorem cb_W {w : WS} (x : Int32) : cbF w 87 x = true ↔ 1 ≤ x ∧ x ≤ 9 := by
  unfold cbF
  rw [if_neg (by decide), if_neg (by decide), if_pos rfl, decide_eq_true_eq]
theorem cb_B {w : WS} (hn : w.n ≤ 8) (x : Int32) : cbF w 66 x = true ↔ 0 ≤ x ∧ x ≤ nI w.n - 1 := by
  unfold cbF
  rw [if_neg (by decide), if_neg (by decide), if_neg (by decide), if_pos rfl, decide_eq_true_eq, le_pred (by omega)]
theorem cb_G {w : WS} (x : Int32) : cbF w 71 x = true ↔ 0 ≤ x ∧ x ≤ 3 := by
  unfold cbF
  rw [if_neg (by decide), if_neg (by decide), if_neg (by decide), if_neg (by decide), if_pos rfl, decide_eq_true_eq]
theorem cb_T {w : WS} (x : Int32) : cbF w 84 x = true ↔ 1 ≤ x ∧ x ≤ 999 := by
  unfold cbF
  rw [if_neg (by decide), if_neg (by decide), if_neg (by decide), if_neg (by decide), if_neg (by decide), if_pos rfl, decide_eq_true_eq]
theorem cb_R {w : WS} (x : Int32) : cbF w 82 x = true ↔ 1 ≤ x ∧ x ≤ 16 := by
  unfold cbF
  rw [if_neg (by decide), if_neg (by decide), if_neg (by decide), if_neg (by decide), if_neg (by decide), if_neg (by decide), if_pos rfl, decide_eq_true_eq]
theorem cb_A {w : WS} (x : Int32) : cbF w 65 x = true ↔ 0 ≤ x ∧ x ≤ 99 := by
  unfold cbF
  rw [if_neg (by decide), if_neg (by decide), if_neg (by decide), if_neg (by decide), if_neg (by decide), if_neg (by decide), if_neg (by decide), if_pos rfl, decide_eq_true_eq]
theorem cb_F {w : WS} (x : Int32) : cbF w 70 x = true ↔ 0 ≤ x ∧ x ≤ 9999 := by
  unfold cbF
  rw [if_neg (by decide), if_neg (by decide), if_neg (by decide), if_neg (by decide), if_neg (by decide), if_neg (by decide), if_neg (by decide), if_neg (by decide), decide_eq_true_eq]
theorem cb_S {w : WS} (x : Int32) : cbF w 83 x = isSz x := by
  unfold cbF
  rw [if_pos rfl]
theorem cb_K {w : WS} (x : Int32) : cbF w 75 x = !hasK w.ks x w.n 0 := by
  unfold cbF
  rw [if_neg (by decide), if_pos rfl]
theorem c_all : (1065 : Int64) = lN (cst 3) ∧ (583 : Int64) = lN (cst 0) ∧ (90302 : Int64) = lN (cst 1) ∧ (2481044 : Int64) = lN (cst 2) ∧ (381245 : Int64) = lN (cst 6) ∧ (40187 : Int64) = lN (cst 8) ∧ (12328316 : Int64) = lN (cst 10) ∧ (13991 : Int64) = lN (cst 12) ∧ (400313 : Int64) = lN (cst 14) ∧ (365647 : Int64) = lN (cst 16) ∧ (923 : Int64) = lN (cst 18) ∧ (315749 : Int64) = lN (cst 20) := by decide +kernel
theorem n_gates {G : SG} {d n T : Nat} {h : AH} {tc : Nat → Int32} {w : WS} {ra fa va pl sm gt : Int32} (h5 : TX h ra fa n T 0 va pl sm gt) (hT : TpAt h n tc) (hTn : T ≤ n) (hn : n ≤ 400) : SW G mX9_gates (d + 2) 0 0 0 [.ref 75, .retAddr 0] [] h (NxP h tc ra fa n T w 71 sm (fun T1 x h' => ∃ va' pl', TX h' ra fa n T1 0 va' pl' sm x)) := by
  have hrg := tok_rg (tc := tc) hTn
  have hK := tok_K (tc := tc) (n := n) (T := T)
  have hPr := tkP_rg (tp := tc) hTn
  refine sw_aload_n dX9_gates_0 rfl ?_
  refine sw_cv0 dX9_gates_1 cv_X9_178 (rc_of h5 rfl) (n_isWord h5 hT hTn hn) (fun r g1 hr => ?_)
  obtain ⟨rfl, h5, hO⟩ := hr
  refine sw_ifeq (tgt := 41) dX9_gates_4 (by decide) (fun hw => ?_) (fun hw => ?_)
  · have hw := bz_eq0.mp hw
    have k2 : ¬ (tok tc n T).1 = 2 := fun q => hw (hK.2.2.1.mp q)
    have nw : ¬ ((71 : Int32) = 71 ∧ isWd tc (tok tc n T) 3 = true) := by
      intro q
      have q := q.2
      unfold isWd at q
      rw [if_neg (fun z => k2 z.1)] at q
      exact absurd q Bool.false_ne_true
    have hT1 := hT.O hO
    have hP := n_number (G := G) (d := d) (lo := 0) (hi := 3) h5 hT1 hPr.2 hn
    refine sw_aload_n dX9_gates_41 rfl ?_
    refine sw_iconst (v := 0) dX9_gates_42 (by decide) ?_
    refine sw_iconst (v := 3) dX9_gates_43 (by decide) ?_
    refine sw_cv2 dX9_gates_44 cv_X9_191 (rc_of h5 rfl) (hP) (fun r g2 hr => ?_)
    obtain ⟨hO2, hq⟩ := hr
    rw [tok_idem hTn] at hq
    have hnv : nval tc n (tkP tc n T) = nval tc n T := by unfold nval; rw [tok_idem hTn]
    rw [hnv] at hq
    obtain ⟨a, b, rfl, h5⟩ | ⟨⟨a, b⟩, rfl, T', va', pl', h5⟩ | ⟨a, rfl, T', va', pl', h5⟩ := hq
    · have ee : rnF tc n w 71 0 (tok tc n T) = (nval tc n T, 0, tok tc n (tok tc n T).2.2) := by
        unfold rnF
        rw [if_neg (by decide), if_neg nw, if_pos a]
        show (nval tc n T, if cbF w 71 (nval tc n T) = true then 0 else flF 0 2 (tok tc n T).2.1, tok tc n (tok tc n T).2.2) = _
        rw [if_pos ((cb_G _).mpr b)]
      refine sw_istore_n dX9_gates_47 (by decide) rfl ?_
      refine sw_aload_n dX9_gates_48 rfl ?_
      refine sw_aload_n dX9_gates_49 rfl ?_
      refine sw_getf dX9_gates_50 fl_X9_175 (h5) rfl ?_
      refine sw_puti dX9_gates_53 fl_X9_182 (h5) (Nat.le_of_ble_eq_true rfl) (fun g3 z3 e3 o3 => ?_)
      have e3 : TX g3 ra fa n (tok tc n T).2.2 0 (nval tc n T) (nI (tok tc n T).2.1) sm (nval tc n T) := e3
      refine sw_iload_n dX9_gates_56 rfl ?_
      exact sw_ireturn dX9_gates_57 rfl rfl (⟨hO.tr (hO2.tr ⟨z3, o3⟩), Or.inl ⟨rfl, _, _, ee, by omega, hrg.2.2, by unfold okV; rw [if_neg (by decide), if_pos rfl]; exact Or.inr b, _, _, e3⟩⟩)
    · have ee : (rnF tc n w 71 0 (tok tc n T)).2.1 = flF 0 2 (tok tc n T).2.1 := by
        unfold rnF
        rw [if_neg (by decide), if_neg nw, if_pos a]
        show (if cbF w 71 (nval tc n T) = true then 0 else flF 0 2 (tok tc n T).2.1) = _
        rw [if_neg (fun q => b ((cb_G _).mp q))]
      refine sw_istore_n dX9_gates_47 (by decide) rfl ?_
      refine sw_aload_n dX9_gates_48 rfl ?_
      refine sw_aload_n dX9_gates_49 rfl ?_
      refine sw_getf dX9_gates_50 fl_X9_175 (h5) rfl ?_
      refine sw_puti dX9_gates_53 fl_X9_182 (h5) (Nat.le_of_ble_eq_true rfl) (fun g3 z3 e3 o3 => ?_)
      have e3 : TX g3 ra fa n T' (flF 0 2 (tok tc n T).2.1) va' pl' sm va' := e3
      rw [← ee] at e3
      refine sw_iload_n dX9_gates_56 rfl ?_
      exact sw_ireturn dX9_gates_57 rfl rfl (⟨hO.tr (hO2.tr ⟨z3, o3⟩), Or.inr ⟨rfl, by rw [ee]; exact fl_ne (by omega) (by omega) (by omega), _, _, _, _, e3⟩⟩)
    · have ee : (rnF tc n w 71 0 (tok tc n T)).2.1 = flF 0 1 (tok tc n T).2.1 := by
        unfold rnF
        rw [if_neg (by decide), if_neg nw, if_neg a]
      refine sw_istore_n dX9_gates_47 (by decide) rfl ?_
      refine sw_aload_n dX9_gates_48 rfl ?_
      refine sw_aload_n dX9_gates_49 rfl ?_
      refine sw_getf dX9_gates_50 fl_X9_175 (h5) rfl ?_
      refine sw_puti dX9_gates_53 fl_X9_182 (h5) (Nat.le_of_ble_eq_true rfl) (fun g3 z3 e3 o3 => ?_)
      have e3 : TX g3 ra fa n T' (flF 0 1 (tok tc n T).2.1) va' pl' sm va' := e3
      rw [← ee] at e3
      refine sw_iload_n dX9_gates_56 rfl ?_
      exact sw_ireturn dX9_gates_57 rfl rfl (⟨hO.tr (hO2.tr ⟨z3, o3⟩), Or.inr ⟨rfl, by rw [ee]; exact fl_ne (by omega) (by omega) (by omega), _, _, _, _, e3⟩⟩)
  · have hw := bz_eq1.mp hw
    obtain ⟨te, tl, ta⟩ := tok_2 hw
    have t3 : ¬ (tok tc n T).1 = 3 := by rw [hK.2.2.1.mpr hw]; decide
    refine sw_aload_n dX9_gates_7 rfl ?_
    refine sw_iconst (v := (-1)) dX9_gates_8 (by decide) ?_
    refine sw_puti dX9_gates_9 fl_X9_182 (h5) (Nat.le_of_ble_eq_true rfl) (fun g2 z2 e2 o2 => ?_)
    have h5 : TX g2 ra fa n (tkP tc n T) 0 va pl sm (-1) := e2
    have hO2 := hO.tr (h2 := g2) ⟨z2, o2⟩
    refine sw_aload_n dX9_gates_12 rfl ?_
    refine sw_cv0 dX9_gates_13 cv_X9_185 (rc_of h5 rfl) (n_readWord h5 (hT.O hO2) hPr.2 hn) (fun r g3 hr => ?_)
    obtain ⟨rfl, h5, hO3⟩ := hr
    have hO3 := hO2.tr hO3
    have iw := wd_is (tc := tc) (k := 3) (by decide) tl ta
    rw [← c_all.1, ← te] at iw
    refine sw_ldc2 dX9_gates_16 w_1041 ?_
    refine sw_lcmp dX9_gates_19 ?_
    refine sw_ifeq (tgt := 35) dX9_gates_20 (by decide) (fun hq => ?_) (fun hq => ?_)
    · have hq := iw.mp (lg0.mp hq)
      have ee : rnF tc n w 71 0 (tok tc n T) = (-1, 0, tok tc n (exB tc n 2 (n - tkP tc n T) (tkP tc n T))) := by
        unfold rnF
        rw [if_neg (by decide), if_pos ⟨rfl, hq⟩]
        show (-1, 0, tok tc n (tok tc n T).2.2) = _
        rw [te]
      have hle : exB tc n 2 (n - tkP tc n T) (tkP tc n T) ≤ n := by have := hrg.2.2; rw [te] at this; exact this
      refine sw_iconst (v := 1) dX9_gates_35 (by decide) ?_
      refine sw_goto (tgt := 40) dX9_gates_36 (by decide) ?_
      exact sw_ireturn dX9_gates_40 rfl rfl (⟨hO3, Or.inl ⟨rfl, _, _, ee, by omega, hle, by unfold okV; rw [if_neg (by decide), if_pos rfl]; exact Or.inl rfl, _, _, h5⟩⟩)
    · have hq : ¬ isWd tc (tok tc n T) 3 = true := fun z => hq (lg0.mpr (iw.mpr z))
      have ee : (rnF tc n w 71 0 (tok tc n T)).2.1 = flF 0 1 (tkP tc n T) := by
        unfold rnF
        rw [if_neg (by decide), if_neg (fun z => hq z.2), if_neg t3, hK.1]
      refine sw_aload_n dX9_gates_23 rfl ?_
      refine sw_iconst (v := 1) dX9_gates_24 (by decide) ?_
      refine sw_aload_n dX9_gates_25 rfl ?_
      refine sw_getf dX9_gates_26 fl_X9_163 (h5) rfl ?_
      refine sw_cv2 dX9_gates_29 cv_X9_172 (rc_of h5 rfl) (n_fails (k := 1) (w := tkP tc n T) h5) (fun r g4 hr => ?_)
      obtain ⟨rfl, h5, hO4⟩ := hr
      have h5 : TX g4 ra fa n (exB tc n 2 (n - tkP tc n T) (tkP tc n T)) (flF 0 1 (tkP tc n T)) va (nI (tkP tc n T)) sm (-1) := h5
      rw [← ee] at h5
      refine sw_ifeq (tgt := 39) dX9_gates_32 (by decide) (fun hz => ?_) (fun hz => ?_)
      · refine sw_iconst (v := 0) dX9_gates_39 (by decide) ?_
        exact sw_ireturn dX9_gates_40 rfl rfl (⟨hO3.tr hO4, Or.inr ⟨rfl, by rw [ee]; exact fl_ne (by omega) (by omega) (by omega), _, _, _, _, h5⟩⟩)
      · exact absurd rfl hz
