/-! the reference's half of a run -/
def SameD (h h' : AH) : Prop := h'.length = h.length ∧ ∀ j, j < 75 ∨ 84 ≤ j → h'[j]? = h[j]?
theorem SameD.rf {h : AH} : SameD h h := ⟨rfl, fun _ _ => rfl⟩
theorem SameD.tr {h h1 h2 : AH} (x : SameD h h1) (y : SameD h1 h2) : SameD h h2 := ⟨y.1.trans x.1, fun j p => (y.2 j p).trans (x.2 j p)⟩
def RB (h : AH) (v : MV) (f tp : Nat → Int32) (s : CS) (T : Nat) : Prop := (MoAt h v ∧ RoAt h f ∧ (∃ t : Nat → Int32, h[77]? = some (.inl (0, 641, .inl t))) ∧ SC h ∧ h[83]? = some (.inl (0, 400, .inl tp))) ∧ MR f s.1 ∧ cOk s.1 T ∧ (v.2.1 = nI s.2.2.1 ∧ v.2.2.1 = s.2.2.2) ∧ s.2.2.1 ≤ 400 ∧ ∀ j, j < s.2.2.1 → tp j = s.2.1 j ∧ ∃ c, c < 256 ∧ s.2.1 j = nI c
def RM (h : AH) (s : CS) (T : Nat) : Prop := ∃ v f tp, RB h v f tp s T
theorem RB.M {h : AH} {v : MV} {f tp : Nat → Int32} {s : CS} {T : Nat} (H : RB h v f tp s T) : RM h s T := ⟨_, _, _, H⟩
theorem RB.ra {h g : AH} {v : MV} {f tp : Nat → Int32} {s : CS} {T : Nat} {x : Int32} (H : RB h v f tp s T) (e : MoAt g (x, v.2)) (z : g.length = h.length) (o : ∀ j, j ≠ 75 → g[j]? = h[j]?) : RB g (x, v.2) f tp s T ∧ SameD h g := by
  obtain ⟨⟨h5, h6, ⟨t, h7⟩, hS, h83⟩, hR, hC, he, hn, htp⟩ := H
  exact ⟨⟨⟨e, (o 76 (by omega)).trans h6, ⟨t, (o 77 (by omega)).trans h7⟩, hS.kept (fun j a b => o j (by omega)), (o 83 (by omega)).trans h83⟩, hR, hC, he, hn, htp⟩, z, fun j hj => o j (by omega)⟩
theorem RB.z {h g : AH} {v : MV} {f tp : Nat → Int32} {s : CS} {T : Nat} (H : RB h v f tp s T) (hZ : SameZ h g) (hS : SC g) : RB g v f tp s T ∧ SameD h g := by
  obtain ⟨⟨h5, h6, ⟨t, h7⟩, -, h83⟩, hR, hC, he, hn, htp⟩ := H
  exact ⟨⟨⟨(hZ.2 75 (by omega)).trans h5, (hZ.2 76 (by omega)).trans h6, ⟨t, (hZ.2 77 (by omega)).trans h7⟩, hS, (hZ.2 83 (by omega)).trans h83⟩, hR, hC, he, hn, htp⟩, hZ.1, fun j hj => hZ.2 j (by omega)⟩
theorem RB.x {h g : AH} {v : MV} {f f' tp : Nat → Int32} {s : CS} {w' : WS} {T T' : Nat} (H : RB h v f tp s T) (hX : SameX h g) (hS : SC g) (h6 : RoAt g f') (hR : MR f' w') (hC : cOk w' T') : RB g v f' tp (w', s.2) T' ∧ SameD h g := by
  obtain ⟨⟨h5, -, ⟨t, h7⟩, -, h83⟩, -, -, he, hn, htp⟩ := H
  exact ⟨⟨⟨(hX.2 75 (by omega)).trans h5, h6, ⟨t, (hX.2 77 (by omega)).trans h7⟩, hS, (hX.2 83 (by omega)).trans h83⟩, hR, hC, he, hn, htp⟩, hX.1, fun j hj => hX.2 j (by omega)⟩
theorem RB.r {h g : AH} {v : MV} {f f' tp : Nat → Int32} {s : CS} {w' : WS} {T T' : Nat} (H : RB h v f tp s T) (hX : SameR h g) (h6 : RoAt g f') (hR : MR f' w') (hC : cOk w' T') : RB g v f' tp (w', s.2) T' ∧ SameD h g := H.x hX.X (H.1.2.2.2.1.R hX) h6 hR hC
theorem n_fault {G : SG} {d T : Nat} {h : AH} {s : CS} (hM : RM h s T) : SW G mX9_fault (d + 11) 0 0 0 [.ref 75] [] h (fun r h' => r = some (.int s.2.2.2) ∧ RM h' s T ∧ SameD h h') := by
  obtain ⟨v, f, tp, H⟩ := hM
  have h5 := H.1.1
  refine sw_aload_n dX9_fault_0 rfl ?_
  refine sw_iconst (v := 0) dX9_fault_1 (by decide) ?_
  refine sw_puti dX9_fault_2 fl_X9_35 (h5) (Nat.le_of_ble_eq_true rfl) (fun g0 z0 e0 o0 => ?_)
  obtain ⟨H, D0⟩ := H.ra e0 z0 o0
  obtain ⟨⟨h5, h6, h77, hS, h83⟩, hR, ⟨t, a, r, htT, hC⟩, ⟨ev, ef⟩, hn, htp⟩ := id H
  refine sw_aload_n dX9_fault_5 rfl ?_
  refine sw_getf dX9_fault_6 fl_X9_252 (h5) rfl ?_
  exact sw_ireturn dX9_fault_9 rfl rfl (⟨by rw [← ef], H.M, D0⟩)
theorem n_size {G : SG} {d T : Nat} {h : AH} {s : CS} {x : Int32} (hM : RM h s T) : SW G mX9_size (d + 11) 0 0 0 [.ref 75, .int x] [] h (fun r h' => r = some (.int (c_size s x).1) ∧ RM h' (c_size s x).2 T ∧ SameD h h') := by
  obtain ⟨v, f, tp, H⟩ := hM
  have h5 := H.1.1
  refine sw_aload_n dX9_size_0 rfl ?_
  refine sw_iconst (v := 0) dX9_size_1 (by decide) ?_
  refine sw_puti dX9_size_2 fl_X9_35 (h5) (Nat.le_of_ble_eq_true rfl) (fun g0 z0 e0 o0 => ?_)
  obtain ⟨H, D0⟩ := H.ra e0 z0 o0
  obtain ⟨⟨h5, h6, h77, hS, h83⟩, hR, ⟨t, a, r, htT, hC⟩, ⟨ev, ef⟩, hn, htp⟩ := id H
  unfold c_size
  refine sw_iload_n dX9_size_5 rfl ?_
  refine sw_pcs1 dX9_size_6 cs_X9_109 (n_isPrime) ?_
  refine sw_ifeq (tgt := 22) dX9_size_9 (by decide) (fun h1 => ?_) (fun h1 => ?_)
  · have h1 := bz_eq0.mp h1
    have hf : (if x = nI s.1.p then ((0 : Int32), s) else if isSz x = true then (1, (rszW s.1 x.toNatClampNeg, s.2)) else (0, s)) = (0, s) := by
      by_cases hx : x = nI s.1.p
      · rw [if_pos hx]
      · rw [if_neg hx, if_neg h1]
    rw [hf]
    refine sw_iconst (v := 0) dX9_size_22 (by decide) ?_
    exact sw_ireturn dX9_size_23 rfl rfl (⟨rfl, H.M, D0⟩)
  · have h1 := bz_eq1.mp h1
    refine sw_aload_n dX9_size_12 rfl ?_
    refine sw_getf dX9_size_13 fl_X9_7 (h5) rfl ?_
    refine sw_iconst (v := 0) dX9_size_16 (by decide) ?_
    refine sw_iald dX9_size_17 (h6) (vp_in_nI (n := 0) (by omega) (by omega)) (hR.1.1) ?_
    refine sw_iload_n dX9_size_18 rfl ?_
    refine sw_cmpne (tgt := 24) dX9_size_19 (by decide) (fun h2 => ?_) (fun h2 => ?_)
    · rw [if_neg (fun q => h2 q.symm), if_pos h1]
      obtain ⟨p, hp, rfl⟩ := isSz_pos h1
      have hp2 := szN_rg p hp
      refine sw_aload_n dX9_size_24 rfl ?_
      refine sw_iload_n dX9_size_25 rfl ?_
      refine sw_cv1 dX9_size_26 cv_X9_113 (rc_of h5 rfl) (n_sizes h5 h6 hR) (fun rr g1 hr => ?_)
      obtain ⟨rfl, hS1, f', h6', hR'⟩ := hr
      obtain ⟨H1, D1⟩ := H.r hS1 h6' hR' ⟨t, a, r, htT, hC.rsz hp⟩
      refine sw_iconst (v := 1) dX9_size_29 (by decide) ?_
      exact sw_ireturn dX9_size_30 rfl rfl (⟨rfl, by rw [nI_clamp (by omega)]; exact H1.M, D0.tr D1⟩)
    · rw [if_pos h2.symm]
      refine sw_iconst (v := 0) dX9_size_22 (by decide) ?_
      exact sw_ireturn dX9_size_23 rfl rfl (⟨rfl, H.M, D0⟩)
theorem n_back {G : SG} {d T : Nat} {h : AH} {s : CS} {key wgt : Int32} (hM : RM h s T) : SW G mX9_back (d + 11) 0 0 0 [.ref 75, .int key, .int wgt] [] h (fun r h' => r = some (.int (c_back s key wgt).1) ∧ RM h' (c_back s key wgt).2 T ∧ SameD h h') := by
  obtain ⟨v, f, tp, H⟩ := hM
  have h5 := H.1.1
  refine sw_aload_n dX9_back_0 rfl ?_
  refine sw_iconst (v := 0) dX9_back_1 (by decide) ?_
  refine sw_puti dX9_back_2 fl_X9_35 (h5) (Nat.le_of_ble_eq_true rfl) (fun g0 z0 e0 o0 => ?_)
  obtain ⟨H, D0⟩ := H.ra e0 z0 o0
  obtain ⟨⟨h5, h6, h77, hS, h83⟩, hR, ⟨t, a, r, htT, hC⟩, ⟨ev, ef⟩, hn, htp⟩ := id H
  have hn8 := hC.2.1
  unfold c_back
  refine sw_iload_n dX9_back_5 rfl ?_
  refine sw_iconst (v := 0) dX9_back_6 (by decide) ?_
  refine sw_sipush (v := 9999) dX9_back_7 (by decide) ?_
  refine sw_pcs3 dX9_back_10 cs_X9_39 (n_in) ?_
  refine sw_ifeq (tgt := 34) dX9_back_13 (by decide) (fun h1 => ?_) (fun h1 => ?_)
  · rw [if_neg (fun q => bz_eq0.mp h1 q.1)]
    refine sw_iconst (v := (-1)) dX9_back_34 (by decide) ?_
    exact sw_ireturn dX9_back_35 rfl rfl (⟨rfl, H.M, D0⟩)
  · have h1 := bz_eq1.mp h1
    refine sw_iload_n dX9_back_16 rfl ?_
    refine sw_iconst (v := 1) dX9_back_17 (by decide) ?_
    refine sw_bipush (v := 9) dX9_back_18 (by decide) ?_
    refine sw_pcs3 dX9_back_20 cs_X9_39 (n_in) ?_
    refine sw_ifeq (tgt := 34) dX9_back_23 (by decide) (fun h2 => ?_) (fun h2 => ?_)
    · rw [if_neg (fun q => bz_eq0.mp h2 q.2.1)]
      refine sw_iconst (v := (-1)) dX9_back_34 (by decide) ?_
      exact sw_ireturn dX9_back_35 rfl rfl (⟨rfl, H.M, D0⟩)
    · have h2 := bz_eq1.mp h2
      refine sw_aload_n dX9_back_26 rfl ?_
      refine sw_iload_n dX9_back_27 rfl ?_
      refine sw_pcv1 dX9_back_28 cv_X9_116 (rc_of h5 rfl) (n_isKey h5 h6 hR hn8) ?_
      refine sw_ifeq (tgt := 36) dX9_back_31 (by decide) (fun h3 => ?_) (fun h3 => ?_)
      · have h3 := bz_eq0.mp h3
        rw [if_pos ⟨h1, h2, h3⟩]
        refine sw_aload_n dX9_back_36 rfl ?_
        refine sw_getf dX9_back_37 fl_X9_7 (h5) rfl ?_
        refine sw_iconst (v := 1) dX9_back_40 (by decide) ?_
        refine sw_iald dX9_back_41 (h6) (vp_in_nI (n := 1) (by omega) (by omega)) (hR.1.2.1) ?_
        refine sw_bipush (v := 8) dX9_back_42 (by decide) ?_
        refine sw_cmpne (tgt := 52) dX9_back_44 (by decide) (fun h4 => ?_) (fun h4 => ?_)
        · have h4 : s.1.n < 8 := by
            rcases Nat.lt_or_ge s.1.n 8 with q | q
            · exact q
            · exact absurd (by rw [show s.1.n = 8 by omega]; rfl) h4
          rw [if_pos h4]
          refine sw_aload_n dX9_back_52 rfl ?_
          refine sw_iload_n dX9_back_53 rfl ?_
          refine sw_iload_n dX9_back_54 rfl ?_
          refine sw_cv2 dX9_back_55 cv_X9_119 (rc_of h5 rfl) (n_backs h5 h6 hR h4) (fun rr g1 hr => ?_)
          obtain ⟨rfl, hS1, f', h6', hR'⟩ := hr
          obtain ⟨H1, D1⟩ := H.r hS1 h6' hR' ⟨t, a, r, htT, hC.add h4 h2⟩
          exact sw_ireturn dX9_back_58 rfl rfl (⟨rfl, H1.M, D0.tr D1⟩)
        · have h4 : s.1.n = 8 := (nI_eq (b := 8) (by omega) (by omega)).mp h4
          rw [if_neg (by omega)]
          refine sw_bipush (v := (-2)) dX9_back_47 (by decide) ?_
          refine sw_goto (tgt := 58) dX9_back_49 (by decide) ?_
          exact sw_ireturn dX9_back_58 rfl rfl (⟨rfl, H.M, D0⟩)
      · rw [if_neg (fun q => q.2.2 (bz_eq1.mp h3))]
        refine sw_iconst (v := (-1)) dX9_back_34 (by decide) ?_
        exact sw_ireturn dX9_back_35 rfl rfl (⟨rfl, H.M, D0⟩)
theorem MR.wgt {f : Nat → Int32} {w : WS} {b : Nat} {x : Int32} (hR : MR f w) (hb : b < 8) : MR (upd f (13 + b) x) (wgtW w b x) := by
  obtain ⟨⟨a, b', c, d, e⟩, k, gr, ml⟩ := hR
  refine ⟨⟨(upd_ne (by omega)).trans a, (upd_ne (by omega)).trans b', (upd_ne (by omega)).trans c, (upd_ne (by omega)).trans d, (upd_ne (by omega)).trans e⟩, fun j hj => ?_, fun g hg => ?_, ml.out (fun i x y => upd_ne (by omega))⟩
  · refine ⟨(upd_ne (by omega)).trans (k j hj).1, ?_⟩
    show upd f (13 + b) x (13 + j) = upd w.2.1 b x j
    by_cases hjb : j = b
    · subst hjb; rw [upd_at, upd_at]
    · rw [upd_ne (by omega), upd_ne hjb]; exact (k j hj).2
  · obtain ⟨p, q, r⟩ := gr g hg
    exact ⟨fun b hb => (upd_ne (by omega)).trans (p b hb), (upd_ne (by omega)).trans q, fun z s hs => (upd_ne (by omega)).trans (r z s hs)⟩
theorem w9_of {x : Int32} (h : 1 ≤ x ∧ x ≤ 9) : ∃ k, 1 ≤ k ∧ k ≤ 9 ∧ x = nI k := by
  obtain ⟨j, hj, e⟩ := nI_of2 (M := 9) (n := 9) rfl (le_not0 h.1) h.2
  refine ⟨j, ?_, hj, e⟩
  have h1 := h.1
  rw [e, show (1 : Int32) = nI 1 from rfl, nI_leI (by omega) (by omega)] at h1
  exact h1
theorem cIn.wgt {w : WS} {t a r b : Nat} {x : Int32} (hC : cIn w t a r) (hx : 1 ≤ x ∧ x ≤ 9) : cIn (wgtW w b x) t a r := by
  obtain ⟨hp, hn, hw, ha, hr, hck, hg⟩ := hC
  refine ⟨hp, hn, fun j hj => ?_, ha, hr, hck, hg⟩
  show ∃ k, 1 ≤ k ∧ k ≤ 9 ∧ upd w.2.1 b x j = nI k
  by_cases hjb : j = b
  · subst hjb; rw [upd_at]; exact w9_of hx
  · rw [upd_ne hjb]; exact hw j hj
theorem n_weigh {G : SG} {d T : Nat} {h : AH} {s : CS} {b x : Int32} (hM : RM h s T) : SW G mX9_weigh (d + 11) 0 0 0 [.ref 75, .int b, .int x] [] h (fun r h' => r = some (.int (c_weigh s b x).1) ∧ RM h' (c_weigh s b x).2 T ∧ SameD h h') := by
  obtain ⟨v, f, tp, H⟩ := hM
  have h5 := H.1.1
  refine sw_aload_n dX9_weigh_0 rfl ?_
  refine sw_iconst (v := 0) dX9_weigh_1 (by decide) ?_
  refine sw_puti dX9_weigh_2 fl_X9_35 (h5) (Nat.le_of_ble_eq_true rfl) (fun g0 z0 e0 o0 => ?_)
  obtain ⟨H, D0⟩ := H.ra e0 z0 o0
  obtain ⟨⟨h5, h6, h77, hS, h83⟩, hR, ⟨t, a, r, htT, hC⟩, ⟨ev, ef⟩, hn, htp⟩ := id H
  have hn8 := hC.2.1
  unfold c_weigh
  refine sw_aload_n dX9_weigh_5 rfl ?_
  refine sw_iload_n dX9_weigh_6 rfl ?_
  refine sw_pcv1 dX9_weigh_7 cv_X9_122 (rc_of h5 rfl) (n_isBack h5 h6 hR.1.2.1 (by omega)) ?_
  refine sw_ifeq (tgt := 36) dX9_weigh_10 (by decide) (fun h1 => ?_) (fun h1 => ?_)
  · rw [if_neg (fun q => bz_eq0.mp h1 q.1)]
    refine sw_iconst (v := 0) dX9_weigh_36 (by decide) ?_
    exact sw_ireturn dX9_weigh_37 rfl rfl (⟨rfl, H.M, D0⟩)
  · have h1 := bz_eq1.mp h1
    refine sw_iload_n dX9_weigh_13 rfl ?_
    refine sw_iconst (v := 1) dX9_weigh_14 (by decide) ?_
    refine sw_bipush (v := 9) dX9_weigh_15 (by decide) ?_
    refine sw_pcs3 dX9_weigh_17 cs_X9_39 (n_in) ?_
    refine sw_ifeq (tgt := 36) dX9_weigh_20 (by decide) (fun h2 => ?_) (fun h2 => ?_)
    · rw [if_neg (fun q => bz_eq0.mp h2 q.2.1)]
      refine sw_iconst (v := 0) dX9_weigh_36 (by decide) ?_
      exact sw_ireturn dX9_weigh_37 rfl rfl (⟨rfl, H.M, D0⟩)
    · have h2 := bz_eq1.mp h2
      obtain ⟨j, hj, rfl⟩ := ba_of (by omega) h1
      rw [nI_clamp (by omega)]
      refine sw_aload_n dX9_weigh_23 rfl ?_
      refine sw_getf dX9_weigh_24 fl_X9_7 (h5) rfl ?_
      refine sw_bipush (v := 13) dX9_weigh_27 (by decide) ?_
      refine sw_iload_n dX9_weigh_29 rfl ?_
      refine sw_iadd dX9_weigh_30 ?_
      refine sw_iald dX9_weigh_31 (h6) (wi (ix2 (a := 13)) (by omega) (by omega)) (wv (ix2 (a := 13)) (by omega) (hR.2.1 j (by omega)).2) ?_
      refine sw_iload_n dX9_weigh_32 rfl ?_
      refine sw_cmpne (tgt := 38) dX9_weigh_33 (by decide) (fun h3 => ?_) (fun h3 => ?_)
      · rw [if_pos ⟨h1, h2, h3⟩]
        refine sw_aload_n dX9_weigh_38 rfl ?_
        refine sw_getf dX9_weigh_39 fl_X9_7 (h5) rfl ?_
        refine sw_bipush (v := 13) dX9_weigh_42 (by decide) ?_
        refine sw_iload_n dX9_weigh_44 rfl ?_
        refine sw_iadd dX9_weigh_45 ?_
        refine sw_iload_n dX9_weigh_46 rfl ?_
        refine sw_iast dX9_weigh_47 (h6) (wi (ix2 (a := 13)) (by omega) (by omega)) (fun g1 z1 e1 o1 => ?_)
        rw [wu (show (13 : Int32) + nI j = nI (13 + j) from ix2) (by omega)] at e1
        obtain ⟨H1, D1⟩ := H.r ⟨z1, o1⟩ e1 (hR.wgt (by omega)) ⟨t, a, r, htT, hC.wgt h2⟩
        refine sw_iconst (v := 1) dX9_weigh_48 (by decide) ?_
        exact sw_ireturn dX9_weigh_49 rfl rfl (⟨rfl, H1.M, D0.tr D1⟩)
      · rw [if_neg (fun q => q.2.2 h3)]
        refine sw_iconst (v := 0) dX9_weigh_36 (by decide) ?_
        exact sw_ireturn dX9_weigh_37 rfl rfl (⟨rfl, H.M, D0⟩)
theorem n_see {G : SG} {d T : Nat} {h : AH} {s : CS} {g b x : Int32} (hM : RM h s T) : SW G mX9_see (d + 11) 0 0 0 [.ref 75, .int g, .int b, .int x] [] h (fun r h' => r = some (.int (c_see s g b x).1) ∧ RM h' (c_see s g b x).2 T ∧ SameD h h') := by
  obtain ⟨v, f, tp, H⟩ := hM
  have h5 := H.1.1
  refine sw_aload_n dX9_see_0 rfl ?_
  refine sw_iconst (v := 0) dX9_see_1 (by decide) ?_
  refine sw_puti dX9_see_2 fl_X9_35 (h5) (Nat.le_of_ble_eq_true rfl) (fun g0 z0 e0 o0 => ?_)
  obtain ⟨H, D0⟩ := H.ra e0 z0 o0
  obtain ⟨⟨h5, h6, h77, hS, h83⟩, hR, ⟨t, a, r, htT, hC⟩, ⟨ev, ef⟩, hn, htp⟩ := id H
  have hn8 := hC.2.1
  have no : ¬ ((g = -1 ∨ (0 ≤ g ∧ g ≤ 3)) ∧ (0 ≤ b ∧ b < nI s.1.n) ∧ (0 ≤ x ∧ x ≤ 2)) → SW G mX9_see (d + 11) 0 0 44 [.ref 75, .int g, .int b, .int x] [] g0 (fun r h' => r = some (.int (c_see s g b x).1) ∧ RM h' (c_see s g b x).2 T ∧ SameD h h') := by
    intro hno
    have hf : c_see s g b x = (-1, s) := if_neg hno
    rw [hf]
    refine sw_iconst (v := (-1)) dX9_see_44 (by decide) ?_
    exact sw_ireturn dX9_see_45 rfl rfl (⟨rfl, H.M, D0⟩)
  have go : (g = -1 ∨ (0 ≤ g ∧ g ≤ 3)) → SW G mX9_see (d + 11) 0 0 17 [.ref 75, .int g, .int b, .int x] [] g0 (fun r h' => r = some (.int (c_see s g b x).1) ∧ RM h' (c_see s g b x).2 T ∧ SameD h h') := by
    intro h1
    refine sw_aload_n dX9_see_17 rfl ?_
    refine sw_iload_n dX9_see_18 rfl ?_
    refine sw_pcv1 dX9_see_19 cv_X9_122 (rc_of h5 rfl) (n_isBack h5 h6 hR.1.2.1 (by omega)) ?_
    refine sw_ifeq (tgt := 44) dX9_see_22 (by decide) (fun h2 => ?_) (fun h2 => ?_)
    · exact no (fun q => bz_eq0.mp h2 q.2.1)
    · have h2 := bz_eq1.mp h2
      refine sw_iload_n dX9_see_25 rfl ?_
      refine sw_iconst (v := 0) dX9_see_26 (by decide) ?_
      refine sw_iconst (v := 2) dX9_see_27 (by decide) ?_
      refine sw_pcs3 dX9_see_28 cs_X9_39 (n_in) ?_
      refine sw_ifeq (tgt := 44) dX9_see_31 (by decide) (fun h3 => ?_) (fun h3 => ?_)
      · exact no (fun q => bz_eq0.mp h3 q.2.2)
      · have h3 := bz_eq1.mp h3
        have hf : c_see s g b x = (nI (shwC g b.toNatClampNeg x s.1.gs 4), (s.1.sg (mapG (shwF g b.toNatClampNeg x) 4 s.1.gs), s.2)) := if_pos ⟨h1, h2, h3⟩
        rw [hf]
        obtain ⟨j, hj, rfl⟩ := ba_of (by omega) h2
        rw [nI_clamp (by omega)]
        refine sw_aload_n dX9_see_34 rfl ?_
        refine sw_iload_n dX9_see_35 rfl ?_
        refine sw_iload_n dX9_see_36 rfl ?_
        refine sw_iload_n dX9_see_37 rfl ?_
        refine sw_cv3 dX9_see_38 cv_X9_128 (rc_of h5 rfl) (n_seesSo (bk := j) h5 h6 hR (by omega)) (fun rr g1 hr => ?_)
        obtain ⟨rfl, hS1, f', h6', hR'⟩ := hr
        obtain ⟨H1, D1⟩ := H.r hS1 h6' hR' ⟨t, a, r, htT, hC.shw hj⟩
        refine sw_goto (tgt := 45) dX9_see_41 (by decide) ?_
        exact sw_ireturn dX9_see_45 rfl rfl (⟨rfl, H1.M, D0.tr D1⟩)
  refine sw_iload_n dX9_see_5 rfl ?_
  refine sw_iconst (v := (-1)) dX9_see_6 (by decide) ?_
  refine sw_cmpeq (tgt := 17) dX9_see_7 (by decide) (fun h1 => ?_) (fun h1 => ?_)
  · exact go (Or.inl h1)
  · refine sw_iload_n dX9_see_10 rfl ?_
    refine sw_pcs1 dX9_see_11 cs_X9_125 (n_isGate) ?_
    refine sw_ifeq (tgt := 44) dX9_see_14 (by decide) (fun h2 => ?_) (fun h2 => ?_)
    · exact no (fun q => q.1.elim h1 (bz_eq0.mp h2))
    · exact go (Or.inr (bz_eq1.mp h2))
theorem a99_of {x : Int32} (h : 0 ≤ x ∧ x ≤ 99) : ∃ k, k ≤ 99 ∧ x = nI k := nI_of2 (M := 99) (n := 99) rfl (nI_not0 h.1) h.2
theorem n_set {G : SG} {d T : Nat} {h : AH} {s : CS} {b x : Int32} (hM : RM h s T) (hT : T < 2 ^ 29) : SW G mX9_set (d + 11) 0 0 0 [.ref 75, .int b, .int x] [] h (fun r h' => r = some (.int (c_set s b x).1) ∧ RM h' (c_set s b x).2 T ∧ SameD h h') := by
  obtain ⟨v, f, tp, H⟩ := hM
  have h5 := H.1.1
  refine sw_aload_n dX9_set_0 rfl ?_
  refine sw_iconst (v := 0) dX9_set_1 (by decide) ?_
  refine sw_puti dX9_set_2 fl_X9_35 (h5) (Nat.le_of_ble_eq_true rfl) (fun g0 z0 e0 o0 => ?_)
  obtain ⟨H, D0⟩ := H.ra e0 z0 o0
  obtain ⟨⟨h5, h6, h77, hS, h83⟩, hR, ⟨t, a, r, htT, hC⟩, ⟨ev, ef⟩, hn, htp⟩ := id H
  have no : c_set s b x = (0, s) → SW G mX9_set (d + 11) 0 0 25 [.ref 75, .int b, .int x] [] g0 (fun r h' => r = some (.int (c_set s b x).1) ∧ RM h' (c_set s b x).2 T ∧ SameD h h') := by
    intro hf
    rw [hf]
    refine sw_iconst (v := 0) dX9_set_25 (by decide) ?_
    exact sw_ireturn dX9_set_26 rfl rfl (⟨rfl, H.M, D0⟩)
  refine sw_iload_n dX9_set_5 rfl ?_
  refine sw_iload_n dX9_set_6 rfl ?_
  refine sw_pcs2 dX9_set_7 cs_X9_132 (n_canHold) ?_
  refine sw_ifeq (tgt := 25) dX9_set_10 (by decide) (fun h1 => ?_) (fun h1 => ?_)
  · have h1 := bz_eq0.mp h1
    exact no (by unfold c_set; rw [if_neg (fun q => h1 (Or.inl ⟨q.1, q.2.1⟩)), if_neg (fun q => h1 (Or.inr ⟨q.1, q.2.1⟩))])
  · rcases bz_eq1.mp h1 with ⟨rfl, hx⟩ | ⟨rfl, hx⟩
    · refine sw_aload_n dX9_set_13 rfl ?_
      refine sw_getf dX9_set_14 fl_X9_7 (h5) rfl ?_
      refine sw_iconst (v := 3) dX9_set_17 (by decide) ?_
      refine sw_iload_n dX9_set_18 rfl ?_
      refine sw_iadd dX9_set_19 ?_
      refine sw_iald dX9_set_20 (h6) (vp_in_nI (n := 3) (by omega) (by omega)) (hR.1.2.2.2.1) ?_
      refine sw_iload_n dX9_set_21 rfl ?_
      refine sw_cmpne (tgt := 27) dX9_set_22 (by decide) (fun h2 => ?_) (fun h2 => ?_)
      · have hf : c_set s 0 x = (1, (rmW s.1 x, s.2)) := if_pos ⟨rfl, hx, fun q => h2 q.symm⟩
        rw [hf]
        obtain ⟨k, k1, k2, rfl⟩ := rm_of hx
        refine sw_aload_n dX9_set_27 rfl ?_
        refine sw_iload_n dX9_set_28 rfl ?_
        refine sw_iload_n dX9_set_29 rfl ?_
        refine sw_cv2 dX9_set_30 cv_X9_136 (rc_of h5 rfl) (n_holds0 (r' := k) h5 h6 hR hC (by omega) ⟨k1, k2⟩) (fun rr g1 hr => ?_)
        obtain ⟨rfl, hS1, f', h6', hR'⟩ := hr
        obtain ⟨H1, D1⟩ := H.r hS1 h6' hR' ⟨t, a, k, htT, hC.rmw ⟨k1, k2⟩⟩
        refine sw_iconst (v := 1) dX9_set_33 (by decide) ?_
        exact sw_ireturn dX9_set_34 rfl rfl (⟨rfl, H1.M, D0.tr D1⟩)
      · exact no (by unfold c_set; rw [if_neg (fun q => q.2.2 h2.symm), if_neg (fun q => absurd q.1 (by decide))])
    · refine sw_aload_n dX9_set_13 rfl ?_
      refine sw_getf dX9_set_14 fl_X9_7 (h5) rfl ?_
      refine sw_iconst (v := 3) dX9_set_17 (by decide) ?_
      refine sw_iload_n dX9_set_18 rfl ?_
      refine sw_iadd dX9_set_19 ?_
      refine sw_iald dX9_set_20 (h6) (vp_in_nI (n := 4) (by omega) (by omega)) (hR.1.2.2.2.2) ?_
      refine sw_iload_n dX9_set_21 rfl ?_
      refine sw_cmpne (tgt := 27) dX9_set_22 (by decide) (fun h2 => ?_) (fun h2 => ?_)
      · have hf : c_set s 1 x = (1, (agW s.1 x, s.2)) := by unfold c_set; rw [if_neg (fun q => absurd q.1 (by decide)), if_pos ⟨rfl, hx, fun q => h2 q.symm⟩]
        rw [hf]
        obtain ⟨k, k2, rfl⟩ := a99_of hx
        refine sw_aload_n dX9_set_27 rfl ?_
        refine sw_iload_n dX9_set_28 rfl ?_
        refine sw_iload_n dX9_set_29 rfl ?_
        refine sw_cv2 dX9_set_30 cv_X9_136 (rc_of h5 rfl) (n_holds1 (a' := k) h5 h6 hR hC (by omega) k2) (fun rr g1 hr => ?_)
        obtain ⟨rfl, hS1, f', h6', hR'⟩ := hr
        obtain ⟨H1, D1⟩ := H.r hS1 h6' hR' ⟨t, k, r, htT, hC.agw k2 (by omega)⟩
        refine sw_iconst (v := 1) dX9_set_33 (by decide) ?_
        exact sw_ireturn dX9_set_34 rfl rfl (⟨rfl, H1.M, D0.tr D1⟩)
      · exact no (by unfold c_set; rw [if_neg (fun q => absurd q.1 (by decide)), if_neg (fun q => q.2.2 h2.symm)])
theorem t999_of {x : Int32} (h : 1 ≤ x ∧ x ≤ 999) : ∃ k, k ≤ 999 ∧ x = nI k := nI_of2 (M := 999) (n := 999) rfl (le_not0 h.1) h.2
theorem n_tick {G : SG} {d T : Nat} {h : AH} {s : CS} {x : Int32} (hM : RM h s T) (hT : T < 2 ^ 29) : SW G mX9_tick (d + 11) 0 0 0 [.ref 75, .int x] [] h (fun r h' => r = some (.int (c_tick s x).1) ∧ RM h' (c_tick s x).2 (T + 999) ∧ SameD h h') := by
  obtain ⟨v, f, tp, H⟩ := hM
  have h5 := H.1.1
  refine sw_aload_n dX9_tick_0 rfl ?_
  refine sw_iconst (v := 0) dX9_tick_1 (by decide) ?_
  refine sw_puti dX9_tick_2 fl_X9_35 (h5) (Nat.le_of_ble_eq_true rfl) (fun g0 z0 e0 o0 => ?_)
  obtain ⟨H, D0⟩ := H.ra e0 z0 o0
  obtain ⟨⟨h5, h6, h77, hS, h83⟩, hR, ⟨t, a, r, htT, hC⟩, ⟨ev, ef⟩, hn, htp⟩ := id H
  unfold c_tick
  refine sw_iload_n dX9_tick_5 rfl ?_
  refine sw_iconst (v := 1) dX9_tick_6 (by decide) ?_
  refine sw_sipush (v := 999) dX9_tick_7 (by decide) ?_
  refine sw_pcs3 dX9_tick_10 cs_X9_39 (n_in) ?_
  refine sw_ifeq (tgt := 24) dX9_tick_13 (by decide) (fun h1 => ?_) (fun h1 => ?_)
  · rw [if_neg (bz_eq0.mp h1)]
    refine sw_iconst (v := (-1)) dX9_tick_24 (by decide) ?_
    exact sw_ireturn dX9_tick_25 rfl rfl (⟨rfl, ⟨_, _, _, H.1, hR, ⟨t, a, r, by omega, hC⟩, H.2.2.2⟩, D0⟩)
  · have h1 := bz_eq1.mp h1
    rw [if_pos h1]
    obtain ⟨k, hk, rfl⟩ := t999_of h1
    refine sw_aload_n dX9_tick_16 rfl ?_
    refine sw_iload_n dX9_tick_17 rfl ?_
    refine sw_cv1 dX9_tick_18 cv_X9_139 (rc_of h5 rfl) (n_ticks (k := k) h5 h6 hR hC (by omega)) (fun rr g1 hr => ?_)
    obtain ⟨rfl, hS1, f', h6', hR'⟩ := hr
    obtain ⟨H1, D1⟩ := H.r hS1 h6' hR' (T' := T + 999) ⟨t + k, a, r, by omega, hC.tick (by omega)⟩
    refine sw_goto (tgt := 25) dX9_tick_21 (by decide) ?_
    exact sw_ireturn dX9_tick_25 rfl rfl (⟨rfl, H1.M, D0.tr D1⟩)
theorem id_of {x : Int32} (h : 0 ≤ x ∧ x ≤ 9999) : ∃ k, k ≤ 9999 ∧ x = nI k := nI_of2 (M := 9999) (n := 9999) rfl (nI_not0 h.1) h.2
theorem n_pack {G : SG} {d T : Nat} {h : AH} {s : CS} {g x : Int32} (hM : RM h s T) : SW G mX9_pack (d + 11) 0 0 0 [.ref 75, .int g, .int x] [] h (fun r h' => r = some (.int (c_pack s g x).1) ∧ RM h' (c_pack s g x).2 T ∧ SameD h h') := by
  obtain ⟨v, f, tp, H⟩ := hM
  have h5 := H.1.1
  refine sw_aload_n dX9_pack_0 rfl ?_
  refine sw_iconst (v := 0) dX9_pack_1 (by decide) ?_
  refine sw_puti dX9_pack_2 fl_X9_35 (h5) (Nat.le_of_ble_eq_true rfl) (fun g0 z0 e0 o0 => ?_)
  obtain ⟨H, D0⟩ := H.ra e0 z0 o0
  obtain ⟨⟨h5, h6, h77, hS, h83⟩, hR, ⟨t, a, r, htT, hC⟩, ⟨ev, ef⟩, hn, htp⟩ := id H
  unfold c_pack
  refine sw_iload_n dX9_pack_5 rfl ?_
  refine sw_pcs1 dX9_pack_6 cs_X9_125 (n_isGate) ?_
  refine sw_ifeq (tgt := 28) dX9_pack_9 (by decide) (fun h1 => ?_) (fun h1 => ?_)
  · rw [if_neg (fun q => bz_eq0.mp h1 q.1)]
    refine sw_bipush (v := (-2)) dX9_pack_28 (by decide) ?_
    exact sw_ireturn dX9_pack_30 rfl rfl (⟨rfl, H.M, D0⟩)
  · have h1 := bz_eq1.mp h1
    refine sw_iload_n dX9_pack_12 rfl ?_
    refine sw_pcs1 dX9_pack_13 cs_X9_142 (n_isFlow) ?_
    refine sw_ifeq (tgt := 28) dX9_pack_16 (by decide) (fun h2 => ?_) (fun h2 => ?_)
    · rw [if_neg (fun q => bz_eq0.mp h2 q.2)]
      refine sw_bipush (v := (-2)) dX9_pack_28 (by decide) ?_
      exact sw_ireturn dX9_pack_30 rfl rfl (⟨rfl, H.M, D0⟩)
    · have h2 := bz_eq1.mp h2
      rw [if_pos ⟨h1, h2⟩]
      obtain ⟨gi, hgi, rfl⟩ := ga_of h1
      rw [nI_clamp (by omega)]
      refine sw_aload_n dX9_pack_19 rfl ?_
      refine sw_iload_n dX9_pack_20 rfl ?_
      refine sw_iload_n dX9_pack_21 rfl ?_
      refine sw_cv2 dX9_pack_22 cv_X9_145 (rc_of h5 rfl) (n_packs (g := gi) h5 h6 hS hR hC hgi) (fun rr g1 hr => ?_)
      obtain ⟨rfl, hX, hS1, f', h6', hR'⟩ := hr
      obtain ⟨H1, D1⟩ := H.x hX hS1 h6' hR' ⟨t, a, r, htT, hC.snd hgi (id_of h2)⟩
      refine sw_goto (tgt := 30) dX9_pack_25 (by decide) ?_
      exact sw_ireturn dX9_pack_30 rfl rfl (⟨rfl, H1.M, D0.tr D1⟩)
theorem n_count {G : SG} {d T : Nat} {h : AH} {s : CS} {x : Int32} (hM : RM h s T) : SW G mX9_count (d + 11) 0 0 0 [.ref 75, .int x] [] h (fun r h' => r = some (.int (c_count s x)) ∧ RM h' s T ∧ SameD h h') := by
  obtain ⟨v, f, tp, H⟩ := hM
  have h5 := H.1.1
  refine sw_aload_n dX9_count_0 rfl ?_
  refine sw_iconst (v := 0) dX9_count_1 (by decide) ?_
  refine sw_puti dX9_count_2 fl_X9_35 (h5) (Nat.le_of_ble_eq_true rfl) (fun g0 z0 e0 o0 => ?_)
  obtain ⟨H, D0⟩ := H.ra e0 z0 o0
  obtain ⟨⟨h5, h6, h77, hS, h83⟩, hR, ⟨t, a, r, htT, hC⟩, ⟨ev, ef⟩, hn, htp⟩ := id H
  refine sw_iload_n dX9_count_5 rfl ?_
  refine sw_iconst (v := 5) dX9_count_6 (by decide) ?_
  refine sw_cmpne (tgt := 17) dX9_count_7 (by decide) (fun h1 => ?_) (fun h1 => ?_)
  · refine sw_iload_n dX9_count_17 rfl ?_
    refine sw_iconst (v := 0) dX9_count_18 (by decide) ?_
    refine sw_iconst (v := 4) dX9_count_19 (by decide) ?_
    refine sw_pcs3 dX9_count_20 cs_X9_39 (n_in) ?_
    refine sw_ifeq (tgt := 35) dX9_count_23 (by decide) (fun h2 => ?_) (fun h2 => ?_)
    · have h2 := bz_eq0.mp h2
      have hne : ∀ k : Int32, (0 ≤ k ∧ k ≤ 4) → ¬ x = k := fun k hk q => h2 (by rw [q]; exact hk)
      have hf : c_count s x = -1 := by
        unfold c_count
        rw [if_neg (hne 0 (by decide)), if_neg (hne 1 (by decide)), if_neg (hne 2 (by decide)), if_neg (hne 3 (by decide)), if_neg (hne 4 (by decide)), if_neg h1]
      refine sw_iconst (v := (-1)) dX9_count_35 (by decide) ?_
      exact sw_ireturn dX9_count_36 rfl rfl (⟨by rw [hf], H.M, D0⟩)
    · have h2 := bz_eq1.mp h2
      obtain ⟨k, hk, rfl⟩ := nI_of2 (M := 4) (n := 4) rfl (nI_not0 h2.1) h2.2
      have hf : f k = c_count s (nI k) := by
        obtain ⟨a0, a1, a2, a3, a4⟩ := hR.1
        rcases (show k = 0 ∨ k = 1 ∨ k = 2 ∨ k = 3 ∨ k = 4 by omega) with rfl | rfl | rfl | rfl | rfl
        · exact a0
        · exact a1
        · exact a2
        · exact a3
        · exact a4
      refine sw_aload_n dX9_count_26 rfl ?_
      refine sw_getf dX9_count_27 fl_X9_7 (h5) rfl ?_
      refine sw_iload_n dX9_count_30 rfl ?_
      refine sw_iald dX9_count_31 (h6) (vp_in_nI (by omega) (by omega)) (nIat (by omega) hf) ?_
      refine sw_goto (tgt := 36) dX9_count_32 (by decide) ?_
      exact sw_ireturn dX9_count_36 rfl rfl (⟨rfl, H.M, D0⟩)
  · subst h1
    refine sw_aload_n dX9_count_10 rfl ?_
    refine sw_getf dX9_count_11 fl_X9_148 (h5) rfl ?_
    refine sw_goto (tgt := 36) dX9_count_14 (by decide) ?_
    exact sw_ireturn dX9_count_36 rfl rfl (⟨by show some (Value.int v.2.1) = _; rw [show v.2.1 = nI s.2.2.1 from ev]; rfl, H.M, D0⟩)
