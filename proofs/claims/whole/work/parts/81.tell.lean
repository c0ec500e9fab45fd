theorem MR.cg {f f' : Nat → Int32} {w : WS} (h : MR f w) (hp : w.p ≤ 97) (ho : ∀ j, j < 641 → f' j = f j) : MR f' w := by
  obtain ⟨⟨a, b, c, d, e⟩, k, gr, ml⟩ := h
  refine ⟨⟨(ho _ (by omega)).trans a, (ho _ (by omega)).trans b, (ho _ (by omega)).trans c, (ho _ (by omega)).trans d, (ho _ (by omega)).trans e⟩, fun j hj => ⟨(ho _ (by omega)).trans (k j hj).1, (ho _ (by omega)).trans (k j hj).2⟩, fun g hg => ?_, ml.out (fun i x y => ho i (by omega))⟩
  obtain ⟨p, q, r⟩ := gr g hg
  exact ⟨fun b hb => (ho _ (by omega)).trans (p b hb), (ho _ (by omega)).trans q, fun z s hs => (ho _ (by omega)).trans (r z s hs)⟩
theorem MR.eq {f : Nat → Int32} {w0 w : WS} (hE : wEq w0 w) (h : MR f w) (hp : w.p ≤ 97) : MR f w0 := by
  obtain ⟨e1, e2, e3, e4, e5, e6, e7⟩ := hE
  obtain ⟨⟨a, b, c, d, e⟩, k, gr, ml⟩ := h
  refine ⟨⟨by rw [e3]; exact a, by rw [e4]; exact b, by rw [e5]; exact c, by rw [e6]; exact d, by rw [e7]; exact e⟩, fun j hj => ⟨(k j hj).1.trans (e1 j hj).1.symm, (k j hj).2.trans (e1 j hj).2.symm⟩, fun g hg => ?_, ml.cg (fun g hg => by show (w.gs g).2.2.2 = (w0.gs g).2.2.2; rw [(e2 g hg).2.2])⟩
  obtain ⟨p, q, r⟩ := gr g hg
  obtain ⟨x, y, z⟩ := e2 g hg
  refine ⟨fun b hb => (p b hb).trans (x b hb).symm, by rw [z]; exact q, fun u s hs => ?_⟩
  rw [e3] at hs
  rw [z] at u
  exact (r u s hs).trans (y s (by omega)).symm
theorem cIn.eq {w0 w : WS} {t a r : Nat} (hE : wEq w0 w) (h : cIn w t a r) : cIn w0 t a r := by
  obtain ⟨e1, e2, e3, e4, e5, e6, e7⟩ := hE
  obtain ⟨hp, hn, hw, ha, hr, ⟨c1, c2, c3⟩, hg⟩ := h
  have hp2 := szN_rg _ hp
  refine ⟨by rw [e3]; exact hp, by rw [e4]; exact hn, fun b hb => ?_, ha, hr, ⟨by rw [e5]; exact c1, by rw [e7]; exact c2, by rw [e6]; exact c3⟩, fun g hg' => ?_⟩
  · rw [e4] at hb
    obtain ⟨k, k1, k2, k3⟩ := hw b hb
    exact ⟨k, k1, k2, (e1 b (by omega)).2.trans k3⟩
  · obtain ⟨x, y, z⟩ := e2 g hg'
    obtain ⟨g1, g2, g3, g4, g5, g6⟩ := hg g hg'
    rw [e3, e4]
    refine ⟨fun b hb hb8 => (x b hb8).trans (g1 b hb hb8), by rw [z]; exact g2, fun u => ?_, by rw [z]; exact g4, by rw [z]; exact g5, by rw [z]; exact g6⟩
    rw [z] at u
    exact (g3 u).cg (fun s hs => y s (by omega))
def TeP (h : AH) (s : CS) (T : Nat) (X : TL) (r : Option Value) (h' : AH) : Prop := SameD h h' ∧ ((X.2.2.2.2.2 = 0 ∧ r = some (.int (nI X.2.1)) ∧ RM h' (X.1, s.2.1, 0, 0) (T + 400000)) ∨ (¬ X.2.2.2.2.2 = 0 ∧ r = some (.int (-1)) ∧ RM h' (s.1, s.2.1, 0, X.2.2.2.2.2) T))
theorem n_tell {G : SG} {d T vb : Nat} {h : AH} {s : CS} {w0 : WS} {nm : Nat → Int32} (hM : RM h s T) (hE : wEq w0 s.1) (hTT : T + 400000 < 2 ^ 30) : SW G mX9_tell (d + 11) 0 0 0 [.ref 75, .retAddr 0, .retAddr 0] [] h (TeP h s T (tlF s.2.1 s.2.2.1 400 (w0, 0, advK s.2.1 s.2.2.1 (0, 0, 0), vb, nm, 0))) := by
  obtain ⟨v, f, tp, H⟩ := hM
  have h5 := H.1.1
  refine sw_aload_n dX9_tell_0 rfl ?_
  refine sw_iconst (v := 0) dX9_tell_1 (by decide) ?_
  refine sw_puti dX9_tell_2 fl_X9_35 (h5) (Nat.le_of_ble_eq_true rfl) (fun g0 z0 e0 o0 => ?_)
  obtain ⟨H, D0⟩ := H.ra e0 z0 o0
  obtain ⟨⟨h5, h6, ⟨u0, h77⟩, hS, h83⟩, hR, ⟨t, a, r, htT, hC⟩, ⟨ev, ef⟩, hn, htp⟩ := id H
  have hp := szN_rg _ hC.1
  have rest : ∀ (g : AH) (u : Nat → Int32) (k : Value), MoAt g (0, v.2) → RoAt g f → g[77]? = some (.inl (0, 641, .inl u)) → (∀ j, j < 641 → u j = f j) → SC g → g[83]? = some (.inl (0, 400, .inl tp)) → SameD h g → SW G mX9_tell (d + 11) 0 0 32 [.ref 75, k, .retAddr 0] [] g (TeP h s T (tlF s.2.1 s.2.2.1 400 (w0, 0, advK s.2.1 s.2.2.1 (0, 0, 0), vb, nm, 0))) := by
    intro g u k h5 h6 h77 hu hS h83 hD
    have hrt := n_readText (G := G) (d := d) (vb := vb) (nm := nm) (T0 := T + 400000) (n := s.2.2.1) (tc := s.2.1) h5 ev ⟨tp, h83, htp⟩ hn h6 hS (hR.eq hE (by omega)) (hC.eq hE) (by omega) hTT
    generalize tlF s.2.1 s.2.2.1 400 (w0, 0, advK s.2.1 s.2.2.1 (0, 0, 0), vb, nm, 0) = X at hrt ⊢
    refine sw_aload_n dX9_tell_32 rfl ?_
    refine sw_cv0 dX9_tell_33 cv_X9_249 (rc_of h5 rfl) (hrt) (fun rr g1 hr => ?_)
    rcases hr with ⟨b, rfl, T', va, pl, gt, f', t', a', r', c1, c2, c3, c4, c5, c6, c7⟩ | ⟨b, rfl, T', va, pl, gt, sm, f', c1, c2, c3, c4⟩
    · have h5 := c1
      refine sw_istore_n dX9_tell_36 (by decide) rfl ?_
      refine sw_aload_n dX9_tell_37 rfl ?_
      refine sw_iconst (v := 0) dX9_tell_38 (by decide) ?_
      refine sw_puti dX9_tell_39 fl_X9_148 (h5) (Nat.le_of_ble_eq_true rfl) (fun g2 z2 e2 o2 => ?_)
      have h5 := e2
      refine sw_aload_n dX9_tell_42 rfl ?_
      refine sw_aload_n dX9_tell_43 rfl ?_
      refine sw_getf dX9_tell_44 fl_X9_157 (h5) rfl ?_
      refine sw_puti dX9_tell_47 fl_X9_252 (h5) (Nat.le_of_ble_eq_true rfl) (fun g3 z3 e3 o3 => ?_)
      have h5 : MoAt g3 (0, nI 0, 0, nI T', 0, va, pl, nI X.2.1, gt) := e3
      have oo : ∀ j, j ≠ 75 → g3[j]? = g1[j]? := fun j hj => (o3 j hj).trans (o2 j hj)
      refine sw_iload_n dX9_tell_50 rfl ?_
      refine sw_ifeq (tgt := 59) dX9_tell_51 (by decide) (fun hz => ?_) (fun hz => ?_)
      · exact absurd hz (by decide)
      · refine sw_aload_n dX9_tell_54 rfl ?_
        refine sw_getf dX9_tell_55 fl_X9_243 (h5) rfl ?_
        exact sw_ireturn dX9_tell_58 rfl rfl (⟨hD.tr ⟨(z3.trans z2).trans c5.1, fun j hj => (oo j (by omega)).trans (c5.2 j (by omega))⟩, Or.inl ⟨b, rfl, (0, nI 0, 0, nI T', 0, va, pl, nI X.2.1, gt), f', tp, ⟨h5, (oo 76 (by omega)).trans c2, ⟨u, (oo 77 (by omega)).trans ((c5.2 77 (by omega)).trans h77)⟩, c4.kept (fun j _ _ => oo j (by omega)), (oo 83 (by omega)).trans ((c5.2 83 (by omega)).trans h83)⟩, c3, ⟨t', a', r', c6, c7⟩, ⟨rfl, rfl⟩, Nat.zero_le _, fun j hj => absurd hj (Nat.not_lt_zero j)⟩⟩)
    · have h5 := c1
      refine sw_istore_n dX9_tell_36 (by decide) rfl ?_
      refine sw_aload_n dX9_tell_37 rfl ?_
      refine sw_iconst (v := 0) dX9_tell_38 (by decide) ?_
      refine sw_puti dX9_tell_39 fl_X9_148 (h5) (Nat.le_of_ble_eq_true rfl) (fun g2 z2 e2 o2 => ?_)
      have h5 := e2
      refine sw_aload_n dX9_tell_42 rfl ?_
      refine sw_aload_n dX9_tell_43 rfl ?_
      refine sw_getf dX9_tell_44 fl_X9_157 (h5) rfl ?_
      refine sw_puti dX9_tell_47 fl_X9_252 (h5) (Nat.le_of_ble_eq_true rfl) (fun g3 z3 e3 o3 => ?_)
      have h5 : MoAt g3 (0, nI 0, X.2.2.2.2.2, nI T', X.2.2.2.2.2, va, pl, sm, gt) := e3
      have oo : ∀ j, j ≠ 75 → g3[j]? = g1[j]? := fun j hj => (o3 j hj).trans (o2 j hj)
      have h76 : RoAt g3 f' := (oo 76 (by omega)).trans c2
      have h77 : g3[77]? = some (.inl (0, 641, .inl u)) := (oo 77 (by omega)).trans ((c4.2 77 (by omega)).trans h77)
      have hS3 : SC g3 := c3.kept (fun j _ _ => oo j (by omega))
      have h83 : g3[83]? = some (.inl (0, 400, .inl tp)) := (oo 83 (by omega)).trans ((c4.2 83 (by omega)).trans h83)
      have hD3 : SameD h g3 := hD.tr ⟨(z3.trans z2).trans c4.1, fun j hj => (oo j (by omega)).trans (c4.2 j (by omega))⟩
      have loop : ∀ (c i : Nat) (g4 : AH) (f4 : Nat → Int32), i + c = 641 → g4.length = g3.length → (∀ j, j ≠ 76 → g4[j]? = g3[j]?) → RoAt g4 f4 → (∀ j, j < i → f4 j = f j) → SW G mX9_tell (d + 11) 0 0 61 [.ref 75, .int 0, .int (nI i)] [] g4 (TeP h s T X) := by
        intro c
        induction c with
        | zero =>
          intro i g4 f4 hi hl ho h6 hf
          have : i = 641 := by omega
          subst this
          refine sw_iload_n dX9_tell_61 rfl ?_
          refine sw_sipush (v := 641) dX9_tell_62 (by decide) ?_
          refine sw_cmpge (tgt := 86) dX9_tell_65 (by decide) (fun hc => ?_) (fun hc => ?_)
          · refine sw_iconst (v := (-1)) dX9_tell_86 (by decide) ?_
            exact sw_ireturn dX9_tell_87 rfl rfl (⟨hD3.tr ⟨hl, fun j hj => ho j (by omega)⟩, Or.inr ⟨b, rfl, (0, nI 0, X.2.2.2.2.2, nI T', X.2.2.2.2.2, va, pl, sm, gt), f4, tp, ⟨(ho 75 (by omega)).trans h5, h6, ⟨u, (ho 77 (by omega)).trans h77⟩, hS3.kept (fun j _ _ => ho j (by omega)), (ho 83 (by omega)).trans h83⟩, hR.cg (by omega) hf, ⟨t, a, r, htT, hC⟩, ⟨rfl, rfl⟩, Nat.zero_le _, fun j hj => absurd hj (Nat.not_lt_zero j)⟩⟩)
          · exact absurd (nI_le (a := 641) (b := 641) (Nat.le_refl _) (by omega)) hc
        | succ c ih =>
          intro i g4 f4 hi hl ho h6 hf
          have h5 : MoAt g4 _ := (ho 75 (by omega)).trans h5
          refine sw_iload_n dX9_tell_61 rfl ?_
          refine sw_sipush (v := 641) dX9_tell_62 (by decide) ?_
          refine sw_cmpge (tgt := 86) dX9_tell_65 (by decide) (fun hc => ?_) (fun hc => ?_)
          · exact absurd hc (nI_ge (b := 641) (by omega) (by omega))
          · refine sw_aload_n dX9_tell_68 rfl ?_
            refine sw_getf dX9_tell_69 fl_X9_7 (h5) rfl ?_
            refine sw_iload_n dX9_tell_72 rfl ?_
            refine sw_aload_n dX9_tell_73 rfl ?_
            refine sw_getf dX9_tell_74 fl_X9_13 (h5) rfl ?_
            refine sw_iload_n dX9_tell_77 rfl ?_
            refine sw_iald dX9_tell_78 ((ho 77 (by omega)).trans h77) (vp_in_nI (by omega) (by omega)) (nIat (by omega) (hu i (by omega))) ?_
            refine sw_iast dX9_tell_79 (h6) (vp_in_nI (by omega) (by omega)) (fun g5 z5 e5 o5 => ?_)
            rw [nIupd (by omega)] at e5
            refine sw_iinc (v := nI (i + 1)) dX9_tell_80 rfl (nI_1 i) (by decide) rfl ?_
            refine sw_goto (tgt := 61) dX9_tell_83 (by decide) ?_
            refine ih (i + 1) g5 _ (by omega) (z5.trans hl) (fun j hj => (o5 j hj).trans (ho j hj)) e5 (fun j hj => ?_)
            by_cases hji : j = i
            · subst hji; rw [upd_at]
            · rw [upd_ne hji]; exact hf j (by omega)
      refine sw_iload_n dX9_tell_50 rfl ?_
      refine sw_ifeq (tgt := 59) dX9_tell_51 (by decide) (fun hz => ?_) (fun hz => ?_)
      · refine sw_iconst (v := 0) dX9_tell_59 (by decide) ?_
        refine sw_istore_n dX9_tell_60 (by decide) rfl ?_
        exact loop 641 0 g3 f' (by omega) rfl (fun _ _ => rfl) h76 (fun j hj => absurd hj (Nat.not_lt_zero j))
      · exact absurd rfl hz
  have loop : ∀ (c i : Nat) (g : AH) (u : Nat → Int32), i + c = 641 → g.length = g0.length → (∀ j, j ≠ 77 → g[j]? = g0[j]?) → g[77]? = some (.inl (0, 641, .inl u)) → (∀ j, j < i → u j = f j) → SW G mX9_tell (d + 11) 0 0 7 [.ref 75, .int (nI i), .retAddr 0] [] g (TeP h s T (tlF s.2.1 s.2.2.1 400 (w0, 0, advK s.2.1 s.2.2.1 (0, 0, 0), vb, nm, 0))) := by
    intro c
    induction c with
    | zero =>
      intro i g u hi hl ho h77 hu
      have : i = 641 := by omega
      subst this
      refine sw_iload_n dX9_tell_7 rfl ?_
      refine sw_sipush (v := 641) dX9_tell_8 (by decide) ?_
      refine sw_cmpge (tgt := 32) dX9_tell_11 (by decide) (fun hc => ?_) (fun hc => ?_)
      · exact rest g u _ ((ho 75 (by omega)).trans h5) ((ho 76 (by omega)).trans h6) h77 hu (hS.kept (fun j _ _ => ho j (by omega))) ((ho 83 (by omega)).trans h83) (D0.tr ⟨hl, fun j hj => ho j (by omega)⟩)
      · exact absurd (nI_le (a := 641) (b := 641) (Nat.le_refl _) (by omega)) hc
    | succ c ih =>
      intro i g u hi hl ho h77 hu
      have h5 : MoAt g (0, v.2) := (ho 75 (by omega)).trans h5
      have h6 : RoAt g f := (ho 76 (by omega)).trans h6
      refine sw_iload_n dX9_tell_7 rfl ?_
      refine sw_sipush (v := 641) dX9_tell_8 (by decide) ?_
      refine sw_cmpge (tgt := 32) dX9_tell_11 (by decide) (fun hc => ?_) (fun hc => ?_)
      · exact absurd hc (nI_ge (b := 641) (by omega) (by omega))
      · refine sw_aload_n dX9_tell_14 rfl ?_
        refine sw_getf dX9_tell_15 fl_X9_13 (h5) rfl ?_
        refine sw_iload_n dX9_tell_18 rfl ?_
        refine sw_aload_n dX9_tell_19 rfl ?_
        refine sw_getf dX9_tell_20 fl_X9_7 (h5) rfl ?_
        refine sw_iload_n dX9_tell_23 rfl ?_
        refine sw_iald dX9_tell_24 (h6) (vp_in_nI (by omega) (by omega)) (nIat (by omega) (rfl : f i = f i)) ?_
        refine sw_iast dX9_tell_25 (h77) (vp_in_nI (by omega) (by omega)) (fun g5 z5 e5 o5 => ?_)
        rw [nIupd (by omega)] at e5
        refine sw_iinc (v := nI (i + 1)) dX9_tell_26 rfl (nI_1 i) (by decide) rfl ?_
        refine sw_goto (tgt := 7) dX9_tell_29 (by decide) ?_
        refine ih (i + 1) g5 _ (by omega) (z5.trans hl) (fun j hj => (o5 j hj).trans (ho j hj)) e5 (fun j hj => ?_)
        by_cases hji : j = i
        · subst hji; rw [upd_at]
        · rw [upd_ne hji]; exact hu j (by omega)
  refine sw_iconst (v := 0) dX9_tell_5 (by decide) ?_
  refine sw_istore_n dX9_tell_6 (by decide) rfl ?_
  exact loop 641 0 g0 u0 (by omega) rfl (fun _ _ => rfl) h77 (fun j hj => absurd hj (Nat.not_lt_zero j))
