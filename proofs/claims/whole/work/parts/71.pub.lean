/-! keep -/
theorem MR.kep {f f' : Nat → Int32} {w : WS} {g : Nat} {t' : Nat → Int32} (hR : MR f w) (hg : g < 4) (hp : w.p ≤ 97) (h9 : f' (249 + g) = 1) (hk : ∀ j, j < w.p → f' (253 + 97 * g + j) = t' j) (ho : ∀ i, i ≠ 249 + g → ¬ (253 + 97 * g ≤ i ∧ i < 253 + 97 * g + 97) → f' i = f i) : MR f' (kepW w g t') := by
  obtain ⟨⟨a, b, c, d, e⟩, k, gr, ml⟩ := hR
  refine ⟨⟨(ho 0 (by omega) (by omega)).trans a, (ho 1 (by omega) (by omega)).trans b, (ho 2 (by omega) (by omega)).trans c, (ho 3 (by omega) (by omega)).trans d, (ho 4 (by omega) (by omega)).trans e⟩, fun b hb => ⟨(ho _ (by omega) (by omega)).trans (k b hb).1, (ho _ (by omega) (by omega)).trans (k b hb).2⟩, fun j hj => ?_, ?_⟩
  · show GR f' j w.p (updG w.gs g _ j)
    unfold updG
    by_cases hjg : j = g
    · rw [if_pos hjg]
      subst hjg
      exact ⟨fun b hb => (ho _ (by omega) (by omega)).trans ((gr j hj).1 b hb), h9, fun _ s hs => hk s hs⟩
    · rw [if_neg hjg]
      exact ⟨fun b hb => (ho _ (by omega) (by omega)).trans ((gr j hj).1 b hb), (ho _ (by omega) (by omega)).trans (gr j hj).2.1, fun q s hs => (ho _ (by omega) (by omega)).trans ((gr j hj).2.2 q s hs)⟩
  · refine (ml.out (fun i x y => ho i (by omega) (by omega))).cg (fun j hj => ?_)
    show _ = (updG w.gs g _ j).2.2.2
    unfold updG
    by_cases hjg : j = g
    · rw [if_pos hjg, hjg]
    · rw [if_neg hjg]
theorem cIn.kep {w : WS} {t a r g : Nat} {t' : Nat → Int32} (hC : cIn w t a r) (hg : g < 4) (ht : ∀ j, j < w.p → t' j = wT w (wU w g) j) : cIn (kepW w g t') t a r := by
  obtain ⟨hp, hn, hw, ha, hr, hck, hgs⟩ := hC
  refine ⟨hp, hn, hw, ha, hr, hck, fun j hj => ?_⟩
  show gOk w.p w.n r t a (updG w.gs g _ j)
  unfold updG
  by_cases hjg : j = g
  · rw [if_pos hjg]
    obtain ⟨x, y, z, u⟩ := hgs g hg
    exact ⟨x, Or.inr rfl, fun _ => (tbl_rg8 hn).cg ht, u⟩
  · rw [if_neg hjg]; exact hgs j hj
theorem n_keep {G : SG} {d T gi : Nat} {h : AH} {s : CS} {t' : Nat → Int32} (hM : RM h s T) (hgi : gi < 4) (ht : ∀ j, j < s.1.p → t' j = wT s.1 (wU s.1 gi) j) : SW G mX9_keep (d + 11) 0 0 0 [.ref 75, .int (nI gi), .retAddr 0] [] h (fun r h' => r = some (.int 1) ∧ RM h' (kepW s.1 gi t', s.2) T ∧ SameD h h') := by
  obtain ⟨v, f, tp, H⟩ := hM
  have h5 := H.1.1
  refine sw_aload_n dX9_keep_0 rfl ?_
  refine sw_iconst (v := 0) dX9_keep_1 (by decide) ?_
  refine sw_puti dX9_keep_2 fl_X9_35 (h5) (Nat.le_of_ble_eq_true rfl) (fun g0 z0 e0 o0 => ?_)
  obtain ⟨H, D0⟩ := H.ra e0 z0 o0
  obtain ⟨⟨h5, h6, h77, hS, h83⟩, hR, ⟨t, a, r, htT, hC⟩, ⟨ev, ef⟩, hn, htp⟩ := id H
  have hp := szN_rg _ hC.1
  refine sw_iload_n dX9_keep_5 rfl ?_
  refine sw_pcs1 dX9_keep_6 cs_X9_125 (n_isGate) ?_
  refine sw_ifne (tgt := 14) dX9_keep_9 (by decide) (fun h1 => ?_) (fun h1 => ?_)
  · refine sw_aload_n dX9_keep_14 rfl ?_
    refine sw_iload_n dX9_keep_15 rfl ?_
    refine sw_cv1 dX9_keep_16 cv_X9_94 (rc_of h5 rfl) (n_laysGate (g := gi) h5 h6 hS hR hC hgi) (fun rr g1 hr => ?_)
    obtain ⟨rfl, hZ, hS1, hU1, ⟨t1, h8, ht1⟩, -⟩ := hr
    obtain ⟨H1, D1⟩ := H.z hZ hS1
    have h5 := H1.1.1
    have h6 := H1.1.2.1
    have loop : ∀ (c i : Nat) (g2 : AH) (f2 : Nat → Int32), i + c = s.1.p → SameR g1 g2 → RoAt g2 f2 → (∀ j, j < i → f2 (253 + 97 * gi + j) = t' j) → (∀ k, ¬ (253 + 97 * gi ≤ k ∧ k < 253 + 97 * gi + 97) → f2 k = f k) → SW G mX9_keep (d + 11) 0 0 21 [.ref 75, .int (nI gi), .int (nI i)] [] g2 (fun r h' => r = some (.int 1) ∧ RM h' (kepW s.1 gi t', s.2) T ∧ SameD h h') := by
      intro c
      induction c with
      | zero =>
        intro i g2 f2 hi hS2 h62 hk ho
        have : i = s.1.p := by omega
        subst this
        have h5 : MoAt g2 _ := (hS2.2 75 (by omega)).trans h5
        have e0 : f2 0 = nI s.1.p := (ho 0 (by omega)).trans hR.1.1
        refine sw_iload_n dX9_keep_21 rfl ?_
        refine sw_aload_n dX9_keep_22 rfl ?_
        refine sw_getf dX9_keep_23 fl_X9_7 (h5) rfl ?_
        refine sw_iconst (v := 0) dX9_keep_26 (by decide) ?_
        refine sw_iald dX9_keep_27 (h62) (vp_in_nI (n := 0) (by omega) (by omega)) (e0) ?_
        refine sw_cmpge (tgt := 58) dX9_keep_28 (by decide) (fun hc => ?_) (fun hc => ?_)
        · refine sw_aload_n dX9_keep_58 rfl ?_
          refine sw_getf dX9_keep_59 fl_X9_7 (h5) rfl ?_
          refine sw_sipush (v := 249) dX9_keep_62 (by decide) ?_
          refine sw_iload_n dX9_keep_65 rfl ?_
          refine sw_iadd dX9_keep_66 ?_
          refine sw_iconst (v := 1) dX9_keep_67 (by decide) ?_
          refine sw_iast dX9_keep_68 (h62) (wi (ix2 (a := 249)) (by omega) (by omega)) (fun g3 z3 e3 o3 => ?_)
          rw [wu (show (249 : Int32) + nI gi = nI (249 + gi) from ix2) (by omega)] at e3
          obtain ⟨H2, D2⟩ := H1.r (hS2.tr ⟨z3, o3⟩) e3 (hR.kep hgi (by omega) upd_at (t' := t') (fun j hj => by rw [upd_ne (by omega)]; exact hk j hj) (fun k a b => by rw [upd_ne a]; exact ho k b)) ⟨t, a, r, htT, hC.kep hgi ht⟩
          refine sw_iconst (v := 1) dX9_keep_69 (by decide) ?_
          exact sw_ireturn dX9_keep_70 rfl rfl (⟨rfl, H2.M, D0.tr (D1.tr D2)⟩)
        · exact absurd (nI_le (Nat.le_refl _) (by omega)) hc
      | succ c ih =>
        intro i g2 f2 hi hS2 h62 hk ho
        have h5 : MoAt g2 _ := (hS2.2 75 (by omega)).trans h5
        have e0 : f2 0 = nI s.1.p := (ho 0 (by omega)).trans hR.1.1
        refine sw_iload_n dX9_keep_21 rfl ?_
        refine sw_aload_n dX9_keep_22 rfl ?_
        refine sw_getf dX9_keep_23 fl_X9_7 (h5) rfl ?_
        refine sw_iconst (v := 0) dX9_keep_26 (by decide) ?_
        refine sw_iald dX9_keep_27 (h62) (vp_in_nI (n := 0) (by omega) (by omega)) (e0) ?_
        refine sw_cmpge (tgt := 58) dX9_keep_28 (by decide) (fun hc => ?_) (fun hc => ?_)
        · exact absurd hc (nI_ge (by omega) (by omega))
        · refine sw_aload_n dX9_keep_31 rfl ?_
          refine sw_getf dX9_keep_32 fl_X9_7 (h5) rfl ?_
          refine sw_sipush (v := 253) dX9_keep_35 (by decide) ?_
          refine sw_bipush (v := 97) dX9_keep_38 (by decide) ?_
          refine sw_iload_n dX9_keep_40 rfl ?_
          refine sw_imul dX9_keep_41 ?_
          refine sw_iadd dX9_keep_42 ?_
          refine sw_iload_n dX9_keep_43 rfl ?_
          refine sw_iadd dX9_keep_44 ?_
          refine sw_aload_n dX9_keep_45 rfl ?_
          refine sw_getf dX9_keep_46 fl_X9_16 (h5) rfl ?_
          refine sw_iload_n dX9_keep_49 rfl ?_
          refine sw_iald dX9_keep_50 ((hS2.2 78 (by omega)).trans h8) (vp_in_nI (by omega) (by omega)) (nIat (by omega) ((ht1 i (by omega)).trans (ht i (by omega)).symm)) ?_
          refine sw_iast dX9_keep_51 (h62) (wi (ix3 (a := 253) (c := 97)) (by omega) (by omega)) (fun g3 z3 e3 o3 => ?_)
          rw [wu (show (253 : Int32) + 97 * nI gi + nI i = nI (253 + 97 * gi + i) from ix3) (by omega)] at e3
          refine sw_iinc (v := nI (i + 1)) dX9_keep_52 rfl (nI_1 i) (by decide) rfl ?_
          refine sw_goto (tgt := 21) dX9_keep_55 (by decide) ?_
          refine ih (i + 1) g3 _ (by omega) (hS2.tr ⟨z3, o3⟩) e3 (fun j hj => ?_) (fun k hk => by rw [upd_ne (by omega)]; exact ho k hk)
          by_cases hji : j = i
          · subst hji; exact upd_at
          · rw [upd_ne (by omega)]; exact hk j (by omega)
    refine sw_iconst (v := 0) dX9_keep_19 (by decide) ?_
    refine sw_istore_n dX9_keep_20 (by decide) rfl ?_
    exact loop s.1.p 0 g1 f (by omega) SameR.rf h6 (fun j hj => by omega) (fun _ _ => rfl)
  · exact absurd ⟨nI_pos' (by omega), nI_le (b := 3) (by omega) (by omega)⟩ (bz_eq0.mp h1)
theorem n_keep0 {G : SG} {d T : Nat} {h : AH} {s : CS} {g : Int32} (hM : RM h s T) (hg : ¬ (0 ≤ g ∧ g ≤ 3)) : SW G mX9_keep (d + 11) 0 0 0 [.ref 75, .int g, .retAddr 0] [] h (fun r h' => r = some (.int 0) ∧ RM h' s T ∧ SameD h h') := by
  obtain ⟨v, f, tp, H⟩ := hM
  have h5 := H.1.1
  refine sw_aload_n dX9_keep_0 rfl ?_
  refine sw_iconst (v := 0) dX9_keep_1 (by decide) ?_
  refine sw_puti dX9_keep_2 fl_X9_35 (h5) (Nat.le_of_ble_eq_true rfl) (fun g0 z0 e0 o0 => ?_)
  obtain ⟨H, D0⟩ := H.ra e0 z0 o0
  refine sw_iload_n dX9_keep_5 rfl ?_
  refine sw_pcs1 dX9_keep_6 cs_X9_125 (n_isGate) ?_
  refine sw_ifne (tgt := 14) dX9_keep_9 (by decide) (fun h1 => ?_) (fun h1 => ?_)
  · exact absurd (bz_eq1.mp h1) hg
  · refine sw_iconst (v := 0) dX9_keep_12 (by decide) ?_
    exact sw_ireturn dX9_keep_13 rfl rfl (⟨rfl, H.M, D0⟩)
/-! how uneven, by the reference -/
def unM (w : WS) (m sz : Nat) : Nat → Int32
  | 0 => -1
  | b + 1 => if m.testBit b = true ∧ ¬ absI (aprt w m sz b) ≤ unM w m sz b then absI (aprt w m sz b) else unM w m sz b
theorem togF_N {w : WS} {m : Nat} (hw : wtOk w.n m w.wt) : ∀ b, b ≤ w.n → ∃ k, k ≤ 9 * b ∧ togF w m b = nI k := by
  intro b
  induction b with
  | zero => intro _; exact ⟨0, by omega, rfl⟩
  | succ b ih =>
    intro hb
    obtain ⟨k, hk, e⟩ := ih (by omega)
    unfold togF
    by_cases hbit : m.testBit b = true
    · obtain ⟨j, j1, j9, je⟩ := hw b (by omega) hbit
      rw [if_pos hbit, e, je, nI_add]
      exact ⟨k + j, by omega, rfl⟩
    · rw [if_neg hbit]; exact ⟨k, by omega, e⟩
theorem aprt_abs {w : WS} {m sz b : Nat} (hw : wtOk w.n m w.wt) (hn : w.n ≤ 8) (hsz : sz ≤ 97) (hb : b < w.n) (hbit : m.testBit b = true) : 0 ≤ absI (aprt w m sz b) := by
  obtain ⟨j, j1, j9, je⟩ := hw b hb hbit
  obtain ⟨k, hk, ke⟩ := togF_N hw w.n (Nat.le_refl _)
  have hc := cntS_le (tbl sz w.n m w.ks w.wt) (nI b) sz
  have e : aprt w m sz b = nI (sz * j) - nI (cntS (tbl sz w.n m w.ks w.wt) (nI b) sz * k) := by
    unfold aprt
    rw [je, ke, pk_mul, pk_mul]
  have b1 : sz * j ≤ 97 * 9 := Nat.mul_le_mul hsz j9
  have b2 : cntS (tbl sz w.n m w.ks w.wt) (nI b) sz * k ≤ 97 * 72 := Nat.mul_le_mul (by omega) (by omega)
  unfold absI
  by_cases h0 : 0 ≤ aprt w m sz b
  · rw [if_pos h0]; exact h0
  · rw [if_neg h0]
    rw [e] at h0 ⊢
    generalize sz * j = x at *
    generalize cntS (tbl sz w.n m w.ks w.wt) (nI b) sz * k = y at *
    rw [Int32.le_iff_toInt_le, pk_sub_toInt (by omega) (by omega)] at h0
    have h0 : ¬ (0 : Int) ≤ (x : Int) - y := h0
    rw [show -(nI x - nI y) = nI y - nI x by rw [Int32.neg_sub], pk_sub (by omega)]
    exact nI_pos' (by omega)
theorem unF_0 {w : WS} {m sz : Nat} (hw : wtOk w.n m w.wt) (hn : w.n ≤ 8) (hsz : sz ≤ 97) : ∀ b, b ≤ w.n → 0 ≤ unvF w m sz b ∧ ((∃ j, j < b ∧ m.testBit j = true) → unM w m sz b = unvF w m sz b) ∧ (¬ (∃ j, j < b ∧ m.testBit j = true) → unM w m sz b = -1 ∧ unvF w m sz b = 0) := by
  intro b
  induction b with
  | zero => intro _; exact ⟨by show (0 : Int32) ≤ 0; decide, fun ⟨j, hj, _⟩ => by omega, fun _ => ⟨rfl, rfl⟩⟩
  | succ b ih =>
    intro hb
    obtain ⟨i0, i1, i2⟩ := ih (by omega)
    by_cases hbit : m.testBit b = true
    · have ha := aprt_abs hw hn hsz (show b < w.n by omega) hbit
      have hu : unvF w m sz (b + 1) = maxI (unvF w m sz b) (absI (aprt w m sz b)) := by rw [unvF, if_pos hbit]
      refine ⟨?_, fun _ => ?_, fun q => absurd ⟨b, by omega, hbit⟩ q⟩
      · rw [hu]; unfold maxI; split
        · exact ha
        · exact i0
      · rw [hu]
        unfold maxI
        by_cases hex : ∃ j, j < b ∧ m.testBit j = true
        · rw [unM, i1 hex]
          by_cases hle : absI (aprt w m sz b) ≤ unvF w m sz b
          · rw [if_neg (fun q => q.2 hle), if_neg (fun q => i_irr _ (i_lt_le q hle))]
          · rw [if_pos ⟨hbit, hle⟩, if_pos (i_lt_of hle)]
        · obtain ⟨a1, a2⟩ := i2 hex
          rw [unM, a1, a2]
          have hm1 : ¬ absI (aprt w m sz b) ≤ -1 := by
            intro q
            rw [Int32.le_iff_toInt_le] at q ha
            have e1 : (-1 : Int32).toInt = -1 := rfl
            have e0 : (0 : Int32).toInt = 0 := rfl
            omega
          rw [if_pos ⟨hbit, hm1⟩]
          by_cases hz : 0 < absI (aprt w m sz b)
          · rw [if_pos hz]
          · rw [if_neg hz]
            have := i_nlt hz
            rw [Int32.le_iff_toInt_le] at this ha
            exact Int32.toInt_inj.mp (by omega)
    · have hu : unvF w m sz (b + 1) = unvF w m sz b := by rw [unvF, if_neg hbit]
      have hm : unM w m sz (b + 1) = unM w m sz b := by rw [unM, if_neg (fun q => hbit q.1)]
      have hiff : (∃ j, j < b + 1 ∧ m.testBit j = true) ↔ (∃ j, j < b ∧ m.testBit j = true) := by
        constructor
        · rintro ⟨j, hj, hjb⟩
          by_cases hjb2 : j = b
          · subst hjb2; exact absurd hjb hbit
          · exact ⟨j, by omega, hjb⟩
        · rintro ⟨j, hj, hjb⟩; exact ⟨j, by omega, hjb⟩
      rw [hu, hm, hiff]
      exact ⟨i0, i1, i2⟩
theorem n_unevenBy {G : SG} {d m sz t a r : Nat} {h : AH} {v : MV} {f : Nat → Int32} {w : WS} (h5 : MoAt h v) (h6 : RoAt h f) (hS : SC h) (hR : MR f w) (hC : cIn w t a r) (hU : UpAt h m) (hm : ∀ b, m.testBit b = true → b < w.n) (hsz : sz ∈ szN) : SW G mX9_unevenBy (d + 4) 0 0 0 [.ref 75, .int (nI sz), .retAddr 0, .retAddr 0, .retAddr 0, .retAddr 0] [] h (fun r h' => r = some (.int (unM w m sz w.n)) ∧ SameZ h h' ∧ SC h' ∧ UpAt h' m) := by
  have hp := szN_rg _ hsz
  have hn8 := hC.2.1
  refine sw_aload_n dX9_unevenBy_0 rfl ?_
  refine sw_iload_n dX9_unevenBy_1 rfl ?_
  refine sw_cv1 dX9_unevenBy_2 cv_X9_71 (rc_of h5 rfl) (n_laysU (p := sz) (m := m) h5 h6 hS hR hC hU hm hsz) (fun rr g1 hr => ?_)
  obtain ⟨rfl, hZ, hS1, hU1, hL1, -⟩ := hr
  have h5 : MoAt g1 v := (hZ.2 75 (by omega)).trans h5
  have h6 : RoAt g1 f := (hZ.2 76 (by omega)).trans h6
  obtain ⟨u, h80, hu⟩ := id hU1
  have loop2 : ∀ (c i : Nat) (v5 : Value), i + c = w.n → SW G mX9_unevenBy (d + 4) 0 0 55 [.ref 75, .int (nI sz), .int (togF w m w.n), .int (unM w m sz i), .int (nI i), v5] [] g1 (fun r h' => r = some (.int (unM w m sz w.n)) ∧ SameZ h h' ∧ SC h' ∧ UpAt h' m) := by
    intro c
    induction c with
    | zero =>
      intro i v5 hi
      have : i = w.n := by omega
      subst this
      refine sw_iload dX9_unevenBy_55 rfl ?_
      refine sw_aload_n dX9_unevenBy_57 rfl ?_
      refine sw_getf dX9_unevenBy_58 fl_X9_7 (h5) rfl ?_
      refine sw_iconst (v := 1) dX9_unevenBy_61 (by decide) ?_
      refine sw_iald dX9_unevenBy_62 (h6) (vp_in_nI (n := 1) (by omega) (by omega)) (hR.1.2.1) ?_
      refine sw_cmpge (tgt := 134) dX9_unevenBy_63 (by decide) (fun hc => ?_) (fun hc => ?_)
      · refine sw_iload_n dX9_unevenBy_134 rfl ?_
        exact sw_ireturn dX9_unevenBy_135 rfl rfl (⟨rfl, hZ, hS1, hU1⟩)
      · exact absurd (nI_le (Nat.le_refl _) (by omega)) hc
    | succ c ih =>
      intro i v5 hi
      have fin : ∀ (v5 : Value) (x : Int32), unM w m sz (i + 1) = x → SW G mX9_unevenBy (d + 4) 0 0 127 [.ref 75, .int (nI sz), .int (togF w m w.n), .int (unM w m sz i), .int (nI i), v5] [.int x] g1 (fun r h' => r = some (.int (unM w m sz w.n)) ∧ SameZ h h' ∧ SC h' ∧ UpAt h' m) := by
        intro v5 x hx
        subst hx
        refine sw_istore_n dX9_unevenBy_127 (by decide) rfl ?_
        refine sw_iinc (v := nI (i + 1)) dX9_unevenBy_128 rfl (nI_1 i) (by decide) rfl ?_
        refine sw_goto (tgt := 55) dX9_unevenBy_131 (by decide) ?_
        exact ih (i + 1) v5 (by omega)
      have mid : SW G mX9_unevenBy (d + 4) 0 0 105 [.ref 75, .int (nI sz), .int (togF w m w.n), .int (unM w m sz i), .int (nI i), .int (absI (aprt w m sz i))] [] g1 (fun r h' => r = some (.int (unM w m sz w.n)) ∧ SameZ h h' ∧ SC h' ∧ UpAt h' m) := by
        refine sw_aload_n dX9_unevenBy_105 rfl ?_
        refine sw_getf dX9_unevenBy_106 fl_X9_22 (h5) rfl ?_
        refine sw_iload dX9_unevenBy_109 rfl ?_
        refine sw_zald dX9_unevenBy_111 (h80) (vp_in_nI (by omega) (by omega)) (nIat (by omega) (hu i (by omega))) ?_
        refine sw_ifeq (tgt := 126) dX9_unevenBy_112 (by decide) (fun hb => ?_) (fun hb => ?_)
        · refine sw_iload_n dX9_unevenBy_126 rfl ?_
          exact fin _ _ (by rw [unM, if_neg (fun q => bz_eq0.mp hb q.1)])
        · refine sw_iload dX9_unevenBy_115 rfl ?_
          refine sw_iload_n dX9_unevenBy_117 rfl ?_
          refine sw_cmple (tgt := 126) dX9_unevenBy_118 (by decide) (fun hl => ?_) (fun hl => ?_)
          · refine sw_iload_n dX9_unevenBy_126 rfl ?_
            exact fin _ _ (by rw [unM, if_neg (fun q => q.2 hl)])
          · refine sw_iload dX9_unevenBy_121 rfl ?_
            refine sw_goto (tgt := 127) dX9_unevenBy_123 (by decide) ?_
            exact fin _ _ (by rw [unM, if_pos ⟨bz_eq1.mp hb, hl⟩])
      refine sw_iload dX9_unevenBy_55 rfl ?_
      refine sw_aload_n dX9_unevenBy_57 rfl ?_
      refine sw_getf dX9_unevenBy_58 fl_X9_7 (h5) rfl ?_
      refine sw_iconst (v := 1) dX9_unevenBy_61 (by decide) ?_
      refine sw_iald dX9_unevenBy_62 (h6) (vp_in_nI (n := 1) (by omega) (by omega)) (hR.1.2.1) ?_
      refine sw_cmpge (tgt := 134) dX9_unevenBy_63 (by decide) (fun hc => ?_) (fun hc => ?_)
      · exact absurd hc (nI_ge (by omega) (by omega))
      · refine sw_iload_n dX9_unevenBy_66 rfl ?_
        refine sw_aload_n dX9_unevenBy_67 rfl ?_
        refine sw_getf dX9_unevenBy_68 fl_X9_7 (h5) rfl ?_
        refine sw_bipush (v := 13) dX9_unevenBy_71 (by decide) ?_
        refine sw_iload dX9_unevenBy_73 rfl ?_
        refine sw_iadd dX9_unevenBy_75 ?_
        refine sw_iald dX9_unevenBy_76 (h6) (wi (ix2 (a := 13)) (by omega) (by omega)) (wv (ix2 (a := 13)) (by omega) (hR.2.1 i (by omega)).2) ?_
        refine sw_imul dX9_unevenBy_77 ?_
        refine sw_aload_n dX9_unevenBy_78 rfl ?_
        refine sw_iload dX9_unevenBy_79 rfl ?_
        refine sw_iload_n dX9_unevenBy_81 rfl ?_
        refine sw_pcv2 dX9_unevenBy_82 cv_X9_258 (rc_of h5 rfl) (n_sharedBy (p := sz) h5 hL1 (by omega)) ?_
        refine sw_iload_n dX9_unevenBy_85 rfl ?_
        refine sw_imul dX9_unevenBy_86 ?_
        refine sw_isub dX9_unevenBy_87 ?_
        show SW G mX9_unevenBy (d + 4) 0 0 88 _ [.int (aprt w m sz i)] _ _
        refine sw_istore dX9_unevenBy_88 (by decide) rfl ?_
        refine sw_iload dX9_unevenBy_90 rfl ?_
        refine sw_ifge (tgt := 101) dX9_unevenBy_92 (by decide) (fun hge => ?_) (fun hge => ?_)
        · have e : absI (aprt w m sz i) = aprt w m sz i := if_pos hge
          rw [e] at mid
          refine sw_iload dX9_unevenBy_101 rfl ?_
          refine sw_istore dX9_unevenBy_103 (by decide) rfl ?_
          exact mid
        · have e : absI (aprt w m sz i) = -aprt w m sz i := if_neg hge
          rw [e] at mid
          refine sw_iload dX9_unevenBy_95 rfl ?_
          refine sw_ineg dX9_unevenBy_97 ?_
          refine sw_goto (tgt := 103) dX9_unevenBy_98 (by decide) ?_
          refine sw_istore dX9_unevenBy_103 (by decide) rfl ?_
          exact mid
  have loop1 : ∀ (c i : Nat), i + c = w.n → SW G mX9_unevenBy (d + 4) 0 0 9 [.ref 75, .int (nI sz), .int (togF w m i), .int (nI i), .retAddr 0, .retAddr 0] [] g1 (fun r h' => r = some (.int (unM w m sz w.n)) ∧ SameZ h h' ∧ SC h' ∧ UpAt h' m) := by
    intro c
    induction c with
    | zero =>
      intro i hi
      have : i = w.n := by omega
      subst this
      refine sw_iload_n dX9_unevenBy_9 rfl ?_
      refine sw_aload_n dX9_unevenBy_10 rfl ?_
      refine sw_getf dX9_unevenBy_11 fl_X9_7 (h5) rfl ?_
      refine sw_iconst (v := 1) dX9_unevenBy_14 (by decide) ?_
      refine sw_iald dX9_unevenBy_15 (h6) (vp_in_nI (n := 1) (by omega) (by omega)) (hR.1.2.1) ?_
      refine sw_cmpge (tgt := 50) dX9_unevenBy_16 (by decide) (fun hc => ?_) (fun hc => ?_)
      · refine sw_iconst (v := (-1)) dX9_unevenBy_50 (by decide) ?_
        refine sw_istore_n dX9_unevenBy_51 (by decide) rfl ?_
        refine sw_iconst (v := 0) dX9_unevenBy_52 (by decide) ?_
        refine sw_istore dX9_unevenBy_53 (by decide) rfl ?_
        exact loop2 w.n 0 _ (by omega)
      · exact absurd (nI_le (Nat.le_refl _) (by omega)) hc
    | succ c ih =>
      intro i hi
      have fin : ∀ (x : Int32), togF w m (i + 1) = togF w m i + x → SW G mX9_unevenBy (d + 4) 0 0 42 [.ref 75, .int (nI sz), .int (togF w m i), .int (nI i), .retAddr 0, .retAddr 0] [.int x, .int (togF w m i)] g1 (fun r h' => r = some (.int (unM w m sz w.n)) ∧ SameZ h h' ∧ SC h' ∧ UpAt h' m) := by
        intro x hx
        refine sw_iadd dX9_unevenBy_42 ?_
        rw [← hx]
        refine sw_istore_n dX9_unevenBy_43 (by decide) rfl ?_
        refine sw_iinc (v := nI (i + 1)) dX9_unevenBy_44 rfl (nI_1 i) (by decide) rfl ?_
        refine sw_goto (tgt := 9) dX9_unevenBy_47 (by decide) ?_
        exact ih (i + 1) (by omega)
      refine sw_iload_n dX9_unevenBy_9 rfl ?_
      refine sw_aload_n dX9_unevenBy_10 rfl ?_
      refine sw_getf dX9_unevenBy_11 fl_X9_7 (h5) rfl ?_
      refine sw_iconst (v := 1) dX9_unevenBy_14 (by decide) ?_
      refine sw_iald dX9_unevenBy_15 (h6) (vp_in_nI (n := 1) (by omega) (by omega)) (hR.1.2.1) ?_
      refine sw_cmpge (tgt := 50) dX9_unevenBy_16 (by decide) (fun hc => ?_) (fun hc => ?_)
      · exact absurd hc (nI_ge (by omega) (by omega))
      · refine sw_iload_n dX9_unevenBy_19 rfl ?_
        refine sw_aload_n dX9_unevenBy_20 rfl ?_
        refine sw_getf dX9_unevenBy_21 fl_X9_22 (h5) rfl ?_
        refine sw_iload_n dX9_unevenBy_24 rfl ?_
        refine sw_zald dX9_unevenBy_25 (h80) (vp_in_nI (by omega) (by omega)) (nIat (by omega) (hu i (by omega))) ?_
        refine sw_ifeq (tgt := 41) dX9_unevenBy_26 (by decide) (fun hb => ?_) (fun hb => ?_)
        · refine sw_iconst (v := 0) dX9_unevenBy_41 (by decide) ?_
          exact fin 0 (by rw [togF, if_neg (bz_eq0.mp hb), Int32.add_zero])
        · refine sw_aload_n dX9_unevenBy_29 rfl ?_
          refine sw_getf dX9_unevenBy_30 fl_X9_7 (h5) rfl ?_
          refine sw_bipush (v := 13) dX9_unevenBy_33 (by decide) ?_
          refine sw_iload_n dX9_unevenBy_35 rfl ?_
          refine sw_iadd dX9_unevenBy_36 ?_
          refine sw_iald dX9_unevenBy_37 (h6) (wi (ix2 (a := 13)) (by omega) (by omega)) (wv (ix2 (a := 13)) (by omega) (hR.2.1 i (by omega)).2) ?_
          refine sw_goto (tgt := 42) dX9_unevenBy_38 (by decide) ?_
          exact fin _ (by rw [togF, if_pos (bz_eq1.mp hb)])
  refine sw_iconst (v := 0) dX9_unevenBy_5 (by decide) ?_
  refine sw_istore_n dX9_unevenBy_6 (by decide) rfl ?_
  refine sw_iconst (v := 0) dX9_unevenBy_7 (by decide) ?_
  refine sw_istore_n dX9_unevenBy_8 (by decide) rfl ?_
  exact loop1 w.n 0 (by omega)
theorem wU_0 {w : WS} {t a r g : Nat} (hC : cIn w t a r) (hg : g < 4) : (nI (wU w g) = 0 ↔ ¬ ∃ j, j < w.n ∧ (wU w g).testBit j = true) := by
  have hlt := wU_lt w g
  constructor
  · intro h
    have : wU w g = 0 := (nI_eq (b := 0) (by omega) (by omega)).mp h
    rw [this]
    rintro ⟨j, -, hj⟩
    rw [Nat.zero_testBit] at hj
    exact absurd hj (by decide)
  · intro h
    have : wU w g = 0 := by
      apply Nat.eq_of_testBit_eq
      intro i
      rw [Nat.zero_testBit]
      by_cases hi : (wU w g).testBit i = true
      · exact absurd ⟨i, wU_n hC hg i hi, hi⟩ h
      · exact Bool.eq_false_iff.mpr hi
    rw [this]; rfl
theorem n_uneven {G : SG} {d T : Nat} {h : AH} {s : CS} {g : Int32} (hM : RM h s T) : SW G mX9_uneven (d + 11) 0 0 0 [.ref 75, .int g] [] h (fun r h' => r = some (.int (c_uneven s g)) ∧ RM h' s T ∧ SameD h h') := by
  obtain ⟨v, f, tp, H⟩ := hM
  have h5 := H.1.1
  refine sw_aload_n dX9_uneven_0 rfl ?_
  refine sw_iconst (v := 0) dX9_uneven_1 (by decide) ?_
  refine sw_puti dX9_uneven_2 fl_X9_35 (h5) (Nat.le_of_ble_eq_true rfl) (fun g0 z0 e0 o0 => ?_)
  obtain ⟨H, D0⟩ := H.ra e0 z0 o0
  obtain ⟨⟨h5, h6, h77, hS, h83⟩, hR, ⟨t, a, r, htT, hC⟩, ⟨ev, ef⟩, hn, htp⟩ := id H
  have hp := szN_rg _ hC.1
  unfold c_uneven
  refine sw_iload_n dX9_uneven_5 rfl ?_
  refine sw_pcs1 dX9_uneven_6 cs_X9_125 (n_isGate) ?_
  refine sw_ifne (tgt := 14) dX9_uneven_9 (by decide) (fun h1 => ?_) (fun h1 => ?_)
  · have h1 := bz_eq1.mp h1
    obtain ⟨gi, hgi, rfl⟩ := ga_of h1
    rw [nI_clamp (by omega)]
    refine sw_aload_n dX9_uneven_14 rfl ?_
    refine sw_iload_n dX9_uneven_15 rfl ?_
    refine sw_cv1 dX9_uneven_16 cv_X9_67 (rc_of h5 rfl) (n_seesR (g := gi) h5 h6 hS hR hC hgi) (fun rr g1 hr => ?_)
    obtain ⟨rfl, hZ, hS1, hU1⟩ := hr
    obtain ⟨H1, D1⟩ := H.z hZ hS1
    have h5 := H1.1.1
    have h6 := H1.1.2.1
    refine sw_aload_n dX9_uneven_19 rfl ?_
    refine sw_aload_n dX9_uneven_20 rfl ?_
    refine sw_getf dX9_uneven_21 fl_X9_7 (h5) rfl ?_
    refine sw_iconst (v := 0) dX9_uneven_24 (by decide) ?_
    refine sw_iald dX9_uneven_25 (h6) (vp_in_nI (n := 0) (by omega) (by omega)) (hR.1.1) ?_
    refine sw_cv1 dX9_uneven_26 cv_X9_267 (rc_of h5 rfl) (n_unevenBy (sz := s.1.p) (m := wU s.1 gi) h5 h6 hS1 hR hC hU1 (wU_n hC hgi) hC.1) (fun rr g2 hr => ?_)
    obtain ⟨rfl, hZ2, hS2, -⟩ := hr
    obtain ⟨H2, D2⟩ := H1.z hZ2 hS2
    obtain ⟨-, k1, k2⟩ := unF_0 (w := s.1) (m := wU s.1 gi) (sz := s.1.p) (wt_ok hC _) hC.2.1 (by omega) s.1.n (Nat.le_refl _)
    have hres : unM s.1 (wU s.1 gi) s.1.p s.1.n = if (0 ≤ nI gi ∧ nI gi ≤ 3) ∧ ¬ nI (wU s.1 gi) = 0 then unv s.1 (wU s.1 gi) s.1.p else -1 := by
      by_cases hz : nI (wU s.1 gi) = 0
      · rw [if_neg (fun q => q.2 hz)]
        exact (k2 ((wU_0 hC hgi).mp hz)).1
      · rw [if_pos ⟨h1, hz⟩]
        exact k1 (Classical.byContradiction fun q => hz ((wU_0 hC hgi).mpr q))
    exact sw_ireturn dX9_uneven_29 rfl rfl (⟨by rw [hres], H2.M, D0.tr (D1.tr D2)⟩)
  · rw [if_neg (fun q => bz_eq0.mp h1 q.1)]
    refine sw_iconst (v := (-1)) dX9_uneven_12 (by decide) ?_
    exact sw_ireturn dX9_uneven_13 rfl rfl (⟨rfl, H.M, D0⟩)
/-- how many primes from 3 to n -/
def prI (n : Nat) : Nat := (szN.filter (fun p => decide (p ≤ n))).length
theorem prI_all : ((List.range 98).all fun n => decide (n < 3) || (if isSz (nI n) then decide (prI n = prI (n - 1) + 1) && decide (szN.getD (prI (n - 1)) 0 = n) else decide (prI n = prI (n - 1)))) = true := by decide +kernel
theorem n_evenest {G : SG} {d T : Nat} {h : AH} {s : CS} {g : Int32} (hM : RM h s T) : SW G mX9_evenest (d + 11) 0 0 0 [.ref 75, .int g, .retAddr 0, .retAddr 0, .retAddr 0, .retAddr 0] [] h (fun r h' => r = some (.int (c_evenest s g)) ∧ RM h' s T ∧ SameD h h') := by
  obtain ⟨v, f, tp, H⟩ := hM
  have h5 := H.1.1
  refine sw_aload_n dX9_evenest_0 rfl ?_
  refine sw_iconst (v := 0) dX9_evenest_1 (by decide) ?_
  refine sw_puti dX9_evenest_2 fl_X9_35 (h5) (Nat.le_of_ble_eq_true rfl) (fun g0 z0 e0 o0 => ?_)
  obtain ⟨H, D0⟩ := H.ra e0 z0 o0
  obtain ⟨⟨h5, h6, h77, hS, h83⟩, hR, ⟨t, a, r, htT, hC⟩, ⟨ev, ef⟩, hn, htp⟩ := id H
  have hp := szN_rg _ hC.1
  unfold c_evenest
  refine sw_iload_n dX9_evenest_5 rfl ?_
  refine sw_pcs1 dX9_evenest_6 cs_X9_125 (n_isGate) ?_
  refine sw_ifne (tgt := 14) dX9_evenest_9 (by decide) (fun h1 => ?_) (fun h1 => ?_)
  · have h1 := bz_eq1.mp h1
    obtain ⟨gi, hgi, rfl⟩ := ga_of h1
    rw [nI_clamp (by omega)]
    have hmn := wU_n hC hgi
    have hz0 := wU_0 hC hgi
    obtain ⟨Hv, hH9, hHe, hup, hex, hz⟩ := hvy_N (m := wU s.1 gi) s.1.n (wt_ok hC _)
    have hn8 := hC.2.1
    have hH8 : hvy (wU s.1 gi) s.1.wt 8 = nI Hv := by
      rw [← hHe, show (8 : Nat) = s.1.n + (8 - s.1.n) by omega]
      exact hvy_ge hmn _
    refine sw_aload_n dX9_evenest_14 rfl ?_
    refine sw_iload_n dX9_evenest_15 rfl ?_
    refine sw_cv1 dX9_evenest_16 cv_X9_67 (rc_of h5 rfl) (n_seesR (g := gi) h5 h6 hS hR hC hgi) (fun rr g1 hr => ?_)
    obtain ⟨rfl, hZ, hS1, hU1⟩ := hr
    obtain ⟨H1, D1⟩ := H.z hZ hS1
    by_cases hzz : nI (wU s.1 gi) = 0
    · rw [if_neg (fun q => q.2 hzz)]
      have hH0 : Hv = 0 := by
        rcases Nat.eq_zero_or_pos Hv with z | z
        · exact z
        · obtain ⟨b, hb, hbit, -⟩ := hex z
          exact absurd ⟨b, hb, hbit⟩ (hz0.mp hzz)
      have h5 := H1.1.1
      have h6 := H1.1.2.1
      refine sw_iconst (v := (-1)) dX9_evenest_19 (by decide) ?_
      refine sw_istore_n dX9_evenest_20 (by decide) rfl ?_
      refine sw_iconst (v := 0) dX9_evenest_21 (by decide) ?_
      refine sw_istore_n dX9_evenest_22 (by decide) rfl ?_
      refine sw_iconst (v := 3) dX9_evenest_23 (by decide) ?_
      refine sw_istore dX9_evenest_24 (by decide) rfl ?_
      refine sw_iload dX9_evenest_26 rfl ?_
      refine sw_bipush (v := 97) dX9_evenest_28 (by decide) ?_
      refine sw_cmpgt (tgt := 87) dX9_evenest_30 (by decide) (fun hc => ?_) (fun hc => ?_)
      · exact absurd hc (by decide)
      · refine sw_aload_n dX9_evenest_33 rfl ?_
        refine sw_pcv0 dX9_evenest_34 cv_X9_59 (rc_of h5 rfl) (n_greatest h5 h6 hR.2.1 hU1) ?_
        rw [hH8, hH0]
        refine sw_ifle (tgt := 87) dX9_evenest_37 (by decide) (fun hl => ?_) (fun hl => ?_)
        · refine sw_iload_n dX9_evenest_87 rfl ?_
          exact sw_ireturn dX9_evenest_88 rfl rfl (⟨rfl, H1.M, D0.tr D1⟩)
        · exact absurd (by decide) hl
    · rw [if_pos ⟨h1, hzz⟩]
      have hHp : 0 < Hv := by
        rcases Nat.eq_zero_or_pos Hv with z | z
        · refine absurd (hz0.mpr ?_) hzz
          rintro ⟨j, hj, hjb⟩
          exact hz z j hj hjb
        · exact z
      have hEx : ∃ j, j < s.1.n ∧ (wU s.1 gi).testBit j = true := Classical.byContradiction fun q => hzz (hz0.mpr q)
      have loop : ∀ (c n : Nat) (g2 : AH) (b1 b2 : Int32) (v5 : Value), n + c = 98 → 3 ≤ n → SameZ g1 g2 → SC g2 → UpAt g2 (wU s.1 gi) → (prI (n - 1) = 0 → b1 = -1) → (∀ k, prI (n - 1) = k + 1 → b1 = nI (evnF s.1 (wU s.1 gi) k).1 ∧ b2 = (evnF s.1 (wU s.1 gi) k).2 ∧ (evnF s.1 (wU s.1 gi) k).1 < 98) → SW G mX9_evenest (d + 11) 0 0 26 [.ref 75, .int (nI gi), .int b1, .int b2, .int (nI n), v5] [] g2 (fun r h' => r = some (.int (nI (evnF s.1 (wU s.1 gi) 23).1)) ∧ RM h' s T ∧ SameD h h') := by
        intro c
        induction c with
        | zero =>
          intro n g2 b1 b2 v5 hnc hn3 hZ2 hS2 hU2 hb0 hb1
          have : n = 98 := by omega
          subst this
          obtain ⟨H2, D2⟩ := H1.z hZ2 hS2
          obtain ⟨e1, -, -⟩ := hb1 23 (by decide +kernel)
          subst e1
          refine sw_iload dX9_evenest_26 rfl ?_
          refine sw_bipush (v := 97) dX9_evenest_28 (by decide) ?_
          refine sw_cmpgt (tgt := 87) dX9_evenest_30 (by decide) (fun hc => ?_) (fun hc => ?_)
          · refine sw_iload_n dX9_evenest_87 rfl ?_
            exact sw_ireturn dX9_evenest_88 rfl rfl (⟨rfl, H2.M, D0.tr (D1.tr D2)⟩)
          · exact absurd (by decide) hc
        | succ c ih =>
          intro n g2 b1 b2 v5 hnc hn3 hZ2 hS2 hU2 hb0 hb1
          obtain ⟨H2, D2⟩ := H1.z hZ2 hS2
          have h5 := H2.1.1
          have h6 := H2.1.2.1
          have hall := List.all_eq_true.mp prI_all n (List.mem_range.mpr (by omega))
          rw [decide_eq_false (by omega), Bool.false_or] at hall
          refine sw_iload dX9_evenest_26 rfl ?_
          refine sw_bipush (v := 97) dX9_evenest_28 (by decide) ?_
          refine sw_cmpgt (tgt := 87) dX9_evenest_30 (by decide) (fun hc => ?_) (fun hc => ?_)
          · exact absurd hc (nI_nlt (a := 97) (by omega) (by omega))
          · refine sw_aload_n dX9_evenest_33 rfl ?_
            refine sw_pcv0 dX9_evenest_34 cv_X9_59 (rc_of h5 rfl) (n_greatest h5 h6 hR.2.1 hU2) ?_
            rw [hH8]
            refine sw_ifle (tgt := 87) dX9_evenest_37 (by decide) (fun hl => ?_) (fun hl => ?_)
            · exact absurd hl (nI_nle hHp (by omega))
            · refine sw_iload dX9_evenest_40 rfl ?_
              refine sw_pcs1 dX9_evenest_42 cs_X9_109 (n_isPrime) ?_
              refine sw_ifne (tgt := 51) dX9_evenest_45 (by decide) (fun hpr => ?_) (fun hpr => ?_)
              · have hpr := bz_eq1.mp hpr
                rw [if_pos hpr, Bool.and_eq_true, decide_eq_true_eq, decide_eq_true_eq] at hall
                obtain ⟨p, hpm, hpe⟩ := isSz_pos hpr
                have hprg := szN_rg p hpm
                have : n = p := (nI_eq (by omega) (by omega)).mp hpe
                subst this
                refine sw_aload_n dX9_evenest_51 rfl ?_
                refine sw_iload dX9_evenest_52 rfl ?_
                refine sw_cv1 dX9_evenest_54 cv_X9_267 (rc_of h5 rfl) (n_unevenBy (sz := n) (m := wU s.1 gi) h5 h6 hS2 hR hC hU2 hmn hpm) (fun rr g3 hr => ?_)
                obtain ⟨rfl, hZ3, hS3, hU3⟩ := hr
                have hun : unM s.1 (wU s.1 gi) n s.1.n = unv s.1 (wU s.1 gi) n := (unF_0 (w := s.1) (m := wU s.1 gi) (sz := n) (wt_ok hC _) hn8 (by omega) s.1.n (Nat.le_refl _)).2.1 hEx
                rw [hun]
                -- behind a prime
                have next : ∀ (x1 x2 : Int32) (v5 : Value), (∀ k, prI n = k + 1 → x1 = nI (evnF s.1 (wU s.1 gi) k).1 ∧ x2 = (evnF s.1 (wU s.1 gi) k).2 ∧ (evnF s.1 (wU s.1 gi) k).1 < 98) → SW G mX9_evenest (d + 11) 0 0 81 [.ref 75, .int (nI gi), .int x1, .int x2, .int (nI n), v5] [] g3 (fun r h' => r = some (.int (nI (evnF s.1 (wU s.1 gi) 23).1)) ∧ RM h' s T ∧ SameD h h') := by
                  intro x1 x2 v5 hx
                  refine sw_iinc (v := nI (n + 1)) dX9_evenest_81 rfl (nI_1 n) (by decide) rfl ?_
                  refine sw_goto (tgt := 26) dX9_evenest_84 (by decide) ?_
                  exact ih (n + 1) g3 x1 x2 v5 (by omega) (by omega) (hZ2.tr hZ3) hS3 hU3 (fun q => by rw [show n + 1 - 1 = n by omega] at q; omega) (fun k hk => hx k (by rw [show n + 1 - 1 = n by omega] at hk; exact hk))
                cases hk : prI (n - 1) with
                | zero =>
                  have hb := hb0 hk
                  subst hb
                  rw [hk] at hall
                  have hn3 : n = 3 := hall.2.symm
                  subst hn3
                  refine sw_istore dX9_evenest_57 (by decide) rfl ?_
                  refine sw_iload_n dX9_evenest_59 rfl ?_
                  refine sw_iconst (v := (-1)) dX9_evenest_60 (by decide) ?_
                  refine sw_cmpeq (tgt := 75) dX9_evenest_61 (by decide) (fun hq => ?_) (fun hq => ?_)
                  · refine sw_iload dX9_evenest_75 rfl ?_
                    refine sw_istore_n dX9_evenest_77 (by decide) rfl ?_
                    refine sw_iload dX9_evenest_78 rfl ?_
                    refine sw_istore_n dX9_evenest_80 (by decide) rfl ?_
                    refine next (nI 3) _ _ (fun k hk' => ?_)
                    rw [hall.1] at hk'
                    have : k = 0 := by omega
                    subst this
                    exact ⟨rfl, rfl, by show 3 < 98; decide⟩
                  · exact absurd rfl hq
                | succ k =>
                  obtain ⟨e1, e2, e3⟩ := hb1 k hk
                  subst e1 e2
                  rw [hk] at hall
                  have hgt : szN.getD (k + 1) 0 = n := hall.2
                  refine sw_istore dX9_evenest_57 (by decide) rfl ?_
                  refine sw_iload_n dX9_evenest_59 rfl ?_
                  refine sw_iconst (v := (-1)) dX9_evenest_60 (by decide) ?_
                  refine sw_cmpeq (tgt := 75) dX9_evenest_61 (by decide) (fun hq => ?_) (fun hq => ?_)
                  · exact absurd hq (nI_ne_m1 (by omega))
                  · refine sw_iload dX9_evenest_64 rfl ?_
                    refine sw_iload_n dX9_evenest_66 rfl ?_
                    refine sw_imul dX9_evenest_67 ?_
                    refine sw_iload_n dX9_evenest_68 rfl ?_
                    refine sw_iload dX9_evenest_69 rfl ?_
                    refine sw_imul dX9_evenest_71 ?_
                    refine sw_cmpge (tgt := 81) dX9_evenest_72 (by decide) (fun hlt => ?_) (fun hlt => ?_)
                    · refine next _ _ _ (fun k' hk' => ?_)
                      rw [hall.1] at hk'
                      have : k' = k + 1 := by omega
                      subst this
                      rw [evnF, hgt, if_neg (fun q => i_irr _ (i_lt_le q hlt))]
                      exact ⟨rfl, rfl, e3⟩
                    · refine sw_iload dX9_evenest_75 rfl ?_
                      refine sw_istore_n dX9_evenest_77 (by decide) rfl ?_
                      refine sw_iload dX9_evenest_78 rfl ?_
                      refine sw_istore_n dX9_evenest_80 (by decide) rfl ?_
                      refine next (nI n) _ _ (fun k' hk' => ?_)
                      rw [hall.1] at hk'
                      have : k' = k + 1 := by omega
                      subst this
                      rw [evnF, hgt, if_pos (i_lt_of hlt)]
                      exact ⟨rfl, rfl, by show n < 98; omega⟩
              · have hpr := bz_eq0.mp hpr
                rw [if_neg hpr, decide_eq_true_eq] at hall
                refine sw_goto (tgt := 81) dX9_evenest_48 (by decide) ?_
                refine sw_iinc (v := nI (n + 1)) dX9_evenest_81 rfl (nI_1 n) (by decide) rfl ?_
                refine sw_goto (tgt := 26) dX9_evenest_84 (by decide) ?_
                exact ih (n + 1) g2 b1 b2 v5 (by omega) (by omega) hZ2 hS2 hU2 (fun q => hb0 (by rw [show n + 1 - 1 = n by omega] at q; omega)) (fun k hk => hb1 k (by rw [show n + 1 - 1 = n by omega] at hk; omega))
      refine sw_iconst (v := (-1)) dX9_evenest_19 (by decide) ?_
      refine sw_istore_n dX9_evenest_20 (by decide) rfl ?_
      refine sw_iconst (v := 0) dX9_evenest_21 (by decide) ?_
      refine sw_istore_n dX9_evenest_22 (by decide) rfl ?_
      refine sw_iconst (v := 3) dX9_evenest_23 (by decide) ?_
      refine sw_istore dX9_evenest_24 (by decide) rfl ?_
      exact loop 95 3 g1 (-1) 0 _ (by omega) (by omega) SameZ.rf hS1 hU1 (fun _ => rfl) (fun k hk => absurd hk (by rw [show prI (3 - 1) = 0 by decide +kernel]; omega))
  · rw [if_neg (fun q => bz_eq0.mp h1 q.1)]
    refine sw_iconst (v := (-1)) dX9_evenest_12 (by decide) ?_
    exact sw_ireturn dX9_evenest_13 rfl rfl (⟨rfl, H.M, D0⟩)
