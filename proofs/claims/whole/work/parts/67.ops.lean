theorem MLs.out {f f' : Nat → Int32} {es : Nat → List E3} (h : MLs f es) (ho : ∀ i, 53 ≤ i → i < 249 → f' i = f i) : MLs f' es := by
  intro g hg
  obtain ⟨ms, ⟨a, b, c⟩, hP⟩ := h g hg
  refine ⟨ms, ⟨(ho _ (by omega) (by omega)).trans a, b, fun k e he => ?_⟩, hP⟩
  have hk := (List.getElem?_eq_some_iff.mp he).1
  obtain ⟨x, y, z⟩ := c k e he
  exact ⟨(ho _ (by omega) (by omega)).trans x, (ho _ (by omega) (by omega)).trans y, (ho _ (by omega) (by omega)).trans z⟩
theorem mapG_lt {F : Nat → GS → GS} {k i : Nat} {f : Nat → GS} (h : i < k) : mapG F k f i = F i (f i) := if_pos h
/-! another size -/
theorem n_sizes {G : SG} {d p : Nat} {h : AH} {v : MV} {f : Nat → Int32} {w : WS} (h5 : MoAt h v) (h6 : RoAt h f) (hR : MR f w) : SW G mX9_sizes d 0 0 0 [.ref 75, .int (nI p), .retAddr 0] [] h (fun r h' => r = none ∧ SameR h h' ∧ ∃ f', RoAt h' f' ∧ MR f' (rszW w p)) := by
  have fin : ∀ f' : Nat → Int32, f' 0 = nI p → (∀ g, g < 4 → f' (249 + g) = 0) → (∀ j, j ≠ 0 → ¬ (249 ≤ j ∧ j < 253) → f' j = f j) → MR f' (rszW w p) := by
    intro f' h0 hg ho
    obtain ⟨⟨a, b, c, d, e⟩, k, gr, ml⟩ := hR
    refine ⟨⟨h0, (ho 1 (by omega) (by omega)).trans b, (ho 2 (by omega) (by omega)).trans c, (ho 3 (by omega) (by omega)).trans d, (ho 4 (by omega) (by omega)).trans e⟩, fun b hb => ⟨(ho _ (by omega) (by omega)).trans (k b hb).1, (ho _ (by omega) (by omega)).trans (k b hb).2⟩, fun g hgg => ?_, ?_⟩
    · show GR f' g p (mapG _ 4 w.gs g)
      rw [mapG_lt hgg]
      exact ⟨fun b hb => (ho _ (by omega) (by omega)).trans ((gr g hgg).1 b hb), hg g hgg, fun q => absurd rfl q⟩
    · refine (ml.out (fun i x y => ho i (by omega) (by omega))).cg (fun g hgg => ?_)
      show _ = (mapG _ 4 w.gs g).2.2.2
      rw [mapG_lt hgg]
  have loop : ∀ (c i : Nat) (g1 : AH) (f1 : Nat → Int32), i + c = 4 → SameR h g1 → RoAt g1 f1 → f1 0 = nI p → (∀ g, g < i → f1 (249 + g) = 0) → (∀ j, j ≠ 0 → ¬ (249 ≤ j ∧ j < 253) → f1 j = f j) → SW G mX9_sizes d 0 0 9 [.ref 75, .int (nI p), .int (nI i)] [] g1 (fun r h' => r = none ∧ SameR h h' ∧ ∃ f', RoAt h' f' ∧ MR f' (rszW w p)) := by
    intro c
    induction c with
    | zero =>
      intro i g1 f1 hi hS h6 a b c
      have : i = 4 := by omega
      subst this
      refine sw_iload_n dX9_sizes_9 rfl ?_
      refine sw_iconst (v := 4) dX9_sizes_10 (by decide) ?_
      refine sw_cmpge (tgt := 31) dX9_sizes_11 (by decide) (fun hc => ?_) (fun hc => ?_)
      · exact sw_return dX9_sizes_31 rfl (⟨rfl, hS, f1, h6, fin f1 a b c⟩)
      · exact absurd (nI_le (a := 4) (b := 4) (Nat.le_refl _) (by omega)) hc
    | succ c ih =>
      intro i g1 f1 hi hS h6 a b c
      have h5 : MoAt g1 v := (hS.2 75 (by omega)).trans h5
      refine sw_iload_n dX9_sizes_9 rfl ?_
      refine sw_iconst (v := 4) dX9_sizes_10 (by decide) ?_
      refine sw_cmpge (tgt := 31) dX9_sizes_11 (by decide) (fun hc => ?_) (fun hc => ?_)
      · exact absurd hc (nI_ge (b := 4) (by omega) (by omega))
      · refine sw_aload_n dX9_sizes_14 rfl ?_
        refine sw_getf dX9_sizes_15 fl_X9_7 (h5) rfl ?_
        refine sw_sipush (v := 249) dX9_sizes_18 (by decide) ?_
        refine sw_iload_n dX9_sizes_21 rfl ?_
        refine sw_iadd dX9_sizes_22 ?_
        refine sw_iconst (v := 0) dX9_sizes_23 (by decide) ?_
        refine sw_iast dX9_sizes_24 (h6) (wi (ix2 (a := 249)) (by omega) (by omega)) (fun g2 z2 e2 o2 => ?_)
        rw [wu (show (249 : Int32) + nI i = nI (249 + i) from ix2) (by omega)] at e2
        refine sw_iinc (v := nI (i + 1)) dX9_sizes_25 rfl (nI_1 i) (by decide) rfl ?_
        refine sw_goto (tgt := 9) dX9_sizes_28 (by decide) ?_
        refine ih (i + 1) g2 _ (by omega) (hS.tr ⟨z2, o2⟩) e2 (by rw [upd_ne (by omega)]; exact a) (fun g hg => ?_) (fun j x y => by rw [upd_ne (by omega)]; exact c j x y)
        by_cases hgi : g = i
        · subst hgi; exact upd_at
        · rw [upd_ne (by omega)]; exact b g (by omega)
  refine sw_aload_n dX9_sizes_0 rfl ?_
  refine sw_getf dX9_sizes_1 fl_X9_7 (h5) rfl ?_
  refine sw_iconst (v := 0) dX9_sizes_4 (by decide) ?_
  refine sw_iload_n dX9_sizes_5 rfl ?_
  refine sw_iast dX9_sizes_6 (h6) (vp_in_nI (n := 0) (by omega) (by omega)) (fun g1 z1 e1 o1 => ?_)
  refine sw_iconst (v := 0) dX9_sizes_7 (by decide) ?_
  refine sw_istore_n dX9_sizes_8 (by decide) rfl ?_
  exact loop 4 0 g1 _ rfl ⟨z1, o1⟩ e1 upd_at (fun g hg => by omega) (fun j x y => upd_ne x)
theorem cIn.rsz {w : WS} {t a r p : Nat} (hC : cIn w t a r) (hp : p ∈ szN) : cIn (rszW w p) t a r := by
  obtain ⟨_, hn, hw, ha, hr, hck, hg⟩ := hC
  refine ⟨hp, hn, hw, ha, hr, hck, fun g hgg => ?_⟩
  show gOk p w.n r t a (mapG _ 4 w.gs g)
  rw [mapG_lt hgg]
  obtain ⟨x, y, z, u⟩ := hg g hgg
  exact ⟨x, Or.inl rfl, fun q => absurd rfl q, u⟩
/-! one more backend -/
theorem n_isKey {G : SG} {d : Nat} {h : AH} {v : MV} {f : Nat → Int32} {w : WS} {key : Int32} (h5 : MoAt h v) (h6 : RoAt h f) (hR : MR f w) (hn : w.n ≤ 8) : SW G mX9_isKey d 0 0 0 [.ref 75, .int key, .retAddr 0] [] h (fun r h' => r = some (.int (bz (hasK w.ks key w.n 0 = true))) ∧ h' = h) := by
  have loop : ∀ (c i : Nat), i + c = w.n → hasK w.ks key c i = hasK w.ks key w.n 0 → SW G mX9_isKey d 0 0 2 [.ref 75, .int key, .int (nI i)] [] h (fun r h' => r = some (.int (bz (hasK w.ks key w.n 0 = true))) ∧ h' = h) := by
    intro c
    induction c with
    | zero =>
      intro i hi he
      have : i = w.n := by omega
      subst this
      refine sw_iload_n dX9_isKey_2 rfl ?_
      refine sw_aload_n dX9_isKey_3 rfl ?_
      refine sw_getf dX9_isKey_4 fl_X9_7 (h5) rfl ?_
      refine sw_iconst (v := 1) dX9_isKey_7 (by decide) ?_
      refine sw_iald dX9_isKey_8 (h6) (vp_in_nI (n := 1) (by omega) (by omega)) (hR.1.2.1) ?_
      refine sw_cmpge (tgt := 32) dX9_isKey_9 (by decide) (fun hc => ?_) (fun hc => ?_)
      · refine sw_iconst (v := 0) dX9_isKey_32 (by decide) ?_
        exact sw_ireturn dX9_isKey_33 rfl rfl (⟨by rw [← he, bz_0 (by unfold hasK; exact Bool.false_ne_true)], rfl⟩)
      · exact absurd (nI_le (Nat.le_refl _) (by omega)) hc
    | succ c ih =>
      intro i hi he
      refine sw_iload_n dX9_isKey_2 rfl ?_
      refine sw_aload_n dX9_isKey_3 rfl ?_
      refine sw_getf dX9_isKey_4 fl_X9_7 (h5) rfl ?_
      refine sw_iconst (v := 1) dX9_isKey_7 (by decide) ?_
      refine sw_iald dX9_isKey_8 (h6) (vp_in_nI (n := 1) (by omega) (by omega)) (hR.1.2.1) ?_
      refine sw_cmpge (tgt := 32) dX9_isKey_9 (by decide) (fun hc => ?_) (fun hc => ?_)
      · exact absurd hc (nI_ge (by omega) (by omega))
      · refine sw_aload_n dX9_isKey_12 rfl ?_
        refine sw_getf dX9_isKey_13 fl_X9_7 (h5) rfl ?_
        refine sw_iconst (v := 5) dX9_isKey_16 (by decide) ?_
        refine sw_iload_n dX9_isKey_17 rfl ?_
        refine sw_iadd dX9_isKey_18 ?_
        refine sw_iald dX9_isKey_19 (h6) (wi (ix2 (a := 5)) (by omega) (by omega)) (wv (ix2 (a := 5)) (by omega) (hR.2.1 i (by omega)).1) ?_
        refine sw_iload_n dX9_isKey_20 rfl ?_
        refine sw_cmpne (tgt := 26) dX9_isKey_21 (by decide) (fun hk => ?_) (fun hk => ?_)
        · refine sw_iinc (v := nI (i + 1)) dX9_isKey_26 rfl (nI_1 i) (by decide) rfl ?_
          refine sw_goto (tgt := 2) dX9_isKey_29 (by decide) ?_
          exact ih (i + 1) (by omega) (by rw [← he, hasK, if_neg hk])
        · refine sw_iconst (v := 1) dX9_isKey_24 (by decide) ?_
          exact sw_ireturn dX9_isKey_25 rfl rfl (⟨by rw [← he, bz_1 (by rw [hasK, if_pos hk])], rfl⟩)
  refine sw_iconst (v := 0) dX9_isKey_0 (by decide) ?_
  refine sw_istore_n dX9_isKey_1 (by decide) rfl ?_
  exact loop w.n 0 (by omega) rfl
theorem shw_1 {x : GS} {n i b : Nat} : (shwF (-1) n 1 i x).1 b = if b = n then 1 else x.1 b := by
  unfold shwF
  by_cases h : x.1 n = 1
  · rw [if_neg (fun q => q.2 h)]
    by_cases hb : b = n
    · rw [if_pos hb, hb]; exact h
    · rw [if_neg hb]
  · rw [if_pos ⟨Or.inl rfl, h⟩]
    show upd x.1 n 1 b = _
    unfold upd
    rfl
theorem shw_r {x : GS} {n i : Nat} {g st : Int32} : (shwF g n st i x).2 = x.2 := by unfold shwF; split <;> rfl
theorem n_backs {G : SG} {d : Nat} {h : AH} {v : MV} {f : Nat → Int32} {w : WS} {key wgt : Int32} (h5 : MoAt h v) (h6 : RoAt h f) (hR : MR f w) (hn : w.n < 8) : SW G mX9_backs d 0 0 0 [.ref 75, .int key, .int wgt, .retAddr 0, .retAddr 0] [] h (fun r h' => r = some (.int (nI w.n)) ∧ SameR h h' ∧ ∃ f', RoAt h' f' ∧ MR f' (addW w key wgt)) := by
  have fin : ∀ f' : Nat → Int32, f' 1 = nI (w.n + 1) → f' (5 + w.n) = key → f' (13 + w.n) = wgt → (∀ g, g < 4 → f' (21 + 8 * g + w.n) = 1) → (∀ j, j ≠ 1 → j ≠ 5 + w.n → j ≠ 13 + w.n → (∀ g, g < 4 → j ≠ 21 + 8 * g + w.n) → f' j = f j) → MR f' (addW w key wgt) := by
    intro f' h1 hk hw hg ho
    obtain ⟨⟨a, b, c, d, e⟩, k, gr, ml⟩ := hR
    refine ⟨⟨(ho 0 (by omega) (by omega) (by omega) (by omega)).trans a, h1, (ho 2 (by omega) (by omega) (by omega) (by omega)).trans c, (ho 3 (by omega) (by omega) (by omega) (by omega)).trans d, (ho 4 (by omega) (by omega) (by omega) (by omega)).trans e⟩, fun b hb => ?_, fun g hgg => ?_, ?_⟩
    · show f' (5 + b) = upd w.1 w.n key b ∧ f' (13 + b) = upd w.2.1 w.n wgt b
      by_cases hbn : b = w.n
      · subst hbn; rw [upd_at, upd_at]; exact ⟨hk, hw⟩
      · rw [upd_ne hbn, upd_ne hbn]
        exact ⟨(ho _ (by omega) (by omega) (by omega) (by omega)).trans (k b hb).1, (ho _ (by omega) (by omega) (by omega) (by omega)).trans (k b hb).2⟩
    · show GR f' g w.p (mapG _ 4 w.gs g)
      rw [mapG_lt hgg]
      refine ⟨fun b hb => ?_, ?_, ?_⟩
      · rw [shw_1]
        by_cases hbn : b = w.n
        · rw [if_pos hbn, hbn]; exact hg g hgg
        · rw [if_neg hbn]
          exact (ho _ (by omega) (by omega) (by omega) (by omega)).trans ((gr g hgg).1 b hb)
      · rw [shw_r]; exact (ho _ (by omega) (by omega) (by omega) (by omega)).trans (gr g hgg).2.1
      · rw [shw_r]; exact fun q s hs => (ho _ (by omega) (by omega) (by omega) (by omega)).trans ((gr g hgg).2.2 q s (by exact hs))
    · refine (ml.out (fun i x y => ho i (by omega) (by omega) (by omega) (by omega))).cg (fun g hgg => ?_)
      show _ = (mapG _ 4 w.gs g).2.2.2
      rw [mapG_lt hgg, shw_r]
  have loop : ∀ (c i : Nat) (g1 : AH) (f1 : Nat → Int32), i + c = 4 → SameR h g1 → RoAt g1 f1 → f1 1 = nI w.n → f1 (5 + w.n) = key → f1 (13 + w.n) = wgt → (∀ g, g < i → f1 (21 + 8 * g + w.n) = 1) → (∀ j, j ≠ 1 → j ≠ 5 + w.n → j ≠ 13 + w.n → (∀ g, g < 4 → j ≠ 21 + 8 * g + w.n) → f1 j = f j) → SW G mX9_backs d 0 0 29 [.ref 75, .int key, .int wgt, .int (nI w.n), .int (nI i)] [] g1 (fun r h' => r = some (.int (nI w.n)) ∧ SameR h h' ∧ ∃ f', RoAt h' f' ∧ MR f' (addW w key wgt)) := by
    intro c
    induction c with
    | zero =>
      intro i g1 f1 hi hS h6 a1 a b c o
      have : i = 4 := by omega
      subst this
      have h5 : MoAt g1 v := (hS.2 75 (by omega)).trans h5
      refine sw_iload dX9_backs_29 rfl ?_
      refine sw_iconst (v := 4) dX9_backs_31 (by decide) ?_
      refine sw_cmpge (tgt := 57) dX9_backs_32 (by decide) (fun hc => ?_) (fun hc => ?_)
      · refine sw_aload_n dX9_backs_57 rfl ?_
        refine sw_getf dX9_backs_58 fl_X9_7 (h5) rfl ?_
        refine sw_iconst (v := 1) dX9_backs_61 (by decide) ?_
        refine sw_dup2 dX9_backs_62 rfl rfl ?_
        refine sw_iald dX9_backs_63 (h6) (vp_in_nI (n := 1) (by omega) (by omega)) (a1) ?_
        refine sw_iconst (v := 1) dX9_backs_64 (by decide) ?_
        refine sw_iadd dX9_backs_65 ?_
        refine sw_iast dX9_backs_66 (h6) (vp_in_nI (n := 1) (by omega) (by omega)) (fun g2 z2 e2 o2 => ?_)
        have e2 : RoAt g2 (upd f1 1 (nI (w.n + 1))) := by rw [← nI_1]; exact e2
        refine sw_iload_n dX9_backs_67 rfl ?_
        exact sw_ireturn dX9_backs_68 rfl rfl (⟨rfl, hS.tr ⟨z2, o2⟩, _, e2, fin _ upd_at (by rw [upd_ne (by omega)]; exact a) (by rw [upd_ne (by omega)]; exact b) (fun g hg => by rw [upd_ne (by omega)]; exact c g hg) (fun j x y z u => by rw [upd_ne x]; exact o j x y z u)⟩)
      · exact absurd (nI_le (a := 4) (b := 4) (Nat.le_refl _) (by omega)) hc
    | succ c ih =>
      intro i g1 f1 hi hS h6 a1 a b c o
      have h5 : MoAt g1 v := (hS.2 75 (by omega)).trans h5
      refine sw_iload dX9_backs_29 rfl ?_
      refine sw_iconst (v := 4) dX9_backs_31 (by decide) ?_
      refine sw_cmpge (tgt := 57) dX9_backs_32 (by decide) (fun hc => ?_) (fun hc => ?_)
      · exact absurd hc (nI_ge (b := 4) (by omega) (by omega))
      · refine sw_aload_n dX9_backs_35 rfl ?_
        refine sw_getf dX9_backs_36 fl_X9_7 (h5) rfl ?_
        refine sw_bipush (v := 21) dX9_backs_39 (by decide) ?_
        refine sw_bipush (v := 8) dX9_backs_41 (by decide) ?_
        refine sw_iload dX9_backs_43 rfl ?_
        refine sw_imul dX9_backs_45 ?_
        refine sw_iadd dX9_backs_46 ?_
        refine sw_iload_n dX9_backs_47 rfl ?_
        refine sw_iadd dX9_backs_48 ?_
        refine sw_iconst (v := 1) dX9_backs_49 (by decide) ?_
        refine sw_iast dX9_backs_50 (h6) (wi (ix3 (a := 21) (c := 8)) (by omega) (by omega)) (fun g2 z2 e2 o2 => ?_)
        rw [wu (show (21 : Int32) + 8 * nI i + nI w.n = nI (21 + 8 * i + w.n) from ix3) (by omega)] at e2
        refine sw_iinc (v := nI (i + 1)) dX9_backs_51 rfl (nI_1 i) (by decide) rfl ?_
        refine sw_goto (tgt := 29) dX9_backs_54 (by decide) ?_
        refine ih (i + 1) g2 _ (by omega) (hS.tr ⟨z2, o2⟩) e2 (by rw [upd_ne (by omega)]; exact a1) (by rw [upd_ne (by omega)]; exact a) (by rw [upd_ne (by omega)]; exact b) (fun g hg => ?_) (fun j x y z u => by rw [upd_ne (u i (by omega))]; exact o j x y z u)
        by_cases hgi : g = i
        · subst hgi; exact upd_at
        · rw [upd_ne (by omega)]; exact c g (by omega)
  refine sw_aload_n dX9_backs_0 rfl ?_
  refine sw_getf dX9_backs_1 fl_X9_7 (h5) rfl ?_
  refine sw_iconst (v := 1) dX9_backs_4 (by decide) ?_
  refine sw_iald dX9_backs_5 (h6) (vp_in_nI (n := 1) (by omega) (by omega)) (hR.1.2.1) ?_
  refine sw_istore_n dX9_backs_6 (by decide) rfl ?_
  refine sw_aload_n dX9_backs_7 rfl ?_
  refine sw_getf dX9_backs_8 fl_X9_7 (h5) rfl ?_
  refine sw_iconst (v := 5) dX9_backs_11 (by decide) ?_
  refine sw_iload_n dX9_backs_12 rfl ?_
  refine sw_iadd dX9_backs_13 ?_
  refine sw_iload_n dX9_backs_14 rfl ?_
  refine sw_iast dX9_backs_15 (h6) (wi (ix2 (a := 5)) (by omega) (by omega)) (fun g1 z1 e1 o1 => ?_)
  rw [wu (show (5 : Int32) + nI w.n = nI (5 + w.n) from ix2) (by omega)] at e1
  have h5 : MoAt g1 v := (o1 75 (by omega)).trans h5
  refine sw_aload_n dX9_backs_16 rfl ?_
  refine sw_getf dX9_backs_17 fl_X9_7 (h5) rfl ?_
  refine sw_bipush (v := 13) dX9_backs_20 (by decide) ?_
  refine sw_iload_n dX9_backs_22 rfl ?_
  refine sw_iadd dX9_backs_23 ?_
  refine sw_iload_n dX9_backs_24 rfl ?_
  refine sw_iast dX9_backs_25 (e1) (wi (ix2 (a := 13)) (by omega) (by omega)) (fun g2 z2 e2 o2 => ?_)
  rw [wu (show (13 : Int32) + nI w.n = nI (13 + w.n) from ix2) (by omega)] at e2
  refine sw_iconst (v := 0) dX9_backs_26 (by decide) ?_
  refine sw_istore dX9_backs_27 (by decide) rfl ?_
  refine loop 4 0 g2 _ rfl ⟨z2.trans z1, fun j hj => (o2 j hj).trans (o1 j hj)⟩ e2 (by rw [upd_ne (by omega), upd_ne (by omega)]; exact hR.1.2.1) (by rw [upd_ne (by omega), upd_at]) upd_at (fun g hg => by omega) (fun j x y z u => by rw [upd_ne z, upd_ne y])
theorem eOk.mono {n n' t a : Nat} {e : E3} (h : eOk n t a e) (hn : n ≤ n') : eOk n' t a e := by
  obtain ⟨x, ⟨c, hc, y⟩, z⟩ := h
  exact ⟨x, ⟨c, by omega, y⟩, z⟩
theorem cIn.add {w : WS} {t a r : Nat} {key wgt : Int32} (hC : cIn w t a r) (hn8 : w.n < 8) (hw9 : 1 ≤ wgt ∧ wgt ≤ 9) : cIn (addW w key wgt) t a r := by
  obtain ⟨hp, hn, hw, ha, hr, hck, hg⟩ := hC
  refine ⟨hp, by show w.n + 1 ≤ 8; omega, fun b hb => ?_, ha, hr, hck, fun g hgg => ?_⟩
  · have hb : b < w.n + 1 := hb
    show ∃ k, 1 ≤ k ∧ k ≤ 9 ∧ upd w.2.1 w.n wgt b = nI k
    by_cases hbn : b = w.n
    · subst hbn
      rw [upd_at]
      obtain ⟨j, hj, e⟩ := nI_of2 (M := 9) (n := 9) rfl (le_not0 hw9.1) hw9.2
      refine ⟨j, ?_, hj, e⟩
      have h1 := hw9.1
      rw [e, show (1 : Int32) = nI 1 from rfl, nI_leI (by omega) (by omega)] at h1
      exact h1
    · rw [upd_ne hbn]; exact hw b (by omega)
  · show gOk w.p (w.n + 1) r t a (mapG _ 4 w.gs g)
    rw [mapG_lt hgg]
    obtain ⟨x, y, z, s, l, o⟩ := hg g hgg
    refine ⟨fun b hb hb8 => ?_, ?_, ?_, ?_⟩
    · rw [shw_1, if_neg (by omega)]; exact x b (by omega) hb8
    · rw [shw_r]; exact y
    · rw [shw_r]; exact z
    · rw [shw_r]; exact ⟨s, l, fun e he => (o e he).mono (by omega)⟩
/-! what gateways are shown -/
theorem shw_b {x : GS} {n i b : Nat} {g st : Int32} : (shwF g n st i x).1 b = if b = n ∧ (g = -1 ∨ g = nI i) then st else x.1 b := by
  unfold shwF
  by_cases hg : g = -1 ∨ g = nI i
  · by_cases h : x.1 n = st
    · rw [if_neg (fun q => q.2 h)]
      by_cases hb : b = n
      · rw [if_pos ⟨hb, hg⟩, hb]; exact h
      · rw [if_neg (fun q => hb q.1)]
    · rw [if_pos ⟨hg, h⟩]
      show upd x.1 n st b = _
      unfold upd
      by_cases hb : b = n
      · rw [if_pos hb, if_pos ⟨hb, hg⟩]
      · rw [if_neg hb, if_neg (fun q => hb q.1)]
  · rw [if_neg (fun q => hg q.1), if_neg (fun q => hg q.2)]
theorem MR.shw {f f' : Nat → Int32} {w : WS} {g st : Int32} {bk : Nat} (hR : MR f w) (hb : bk < 8) (hf : ∀ i, i < 4 → f' (21 + 8 * i + bk) = if g = -1 ∨ g = nI i then st else f (21 + 8 * i + bk)) (ho : ∀ j, (∀ i, i < 4 → j ≠ 21 + 8 * i + bk) → f' j = f j) : MR f' (w.sg (mapG (shwF g bk st) 4 w.gs)) := by
  obtain ⟨⟨a, b, c, d, e⟩, k, gr, ml⟩ := hR
  refine ⟨⟨(ho 0 (by omega)).trans a, (ho 1 (by omega)).trans b, (ho 2 (by omega)).trans c, (ho 3 (by omega)).trans d, (ho 4 (by omega)).trans e⟩, fun b hb => ⟨(ho _ (by omega)).trans (k b hb).1, (ho _ (by omega)).trans (k b hb).2⟩, fun i hi => ?_, ?_⟩
  · show GR f' i w.p (mapG _ 4 w.gs i)
    rw [mapG_lt hi]
    refine ⟨fun b hb => ?_, ?_, ?_⟩
    · rw [shw_b]
      by_cases hbn : b = bk
      · subst hbn
        rw [hf i hi]
        by_cases hg : g = -1 ∨ g = nI i
        · rw [if_pos hg, if_pos ⟨rfl, hg⟩]
        · rw [if_neg hg, if_neg (fun q => hg q.2)]; exact (gr i hi).1 b hb
      · rw [if_neg (fun q => hbn q.1)]
        exact (ho _ (by omega)).trans ((gr i hi).1 b hb)
    · rw [shw_r]; exact (ho _ (by omega)).trans (gr i hi).2.1
    · rw [shw_r]; exact fun q s hs => (ho _ (by omega)).trans ((gr i hi).2.2 q s hs)
  · refine (ml.out (fun i x y => ho i (by omega))).cg (fun i hi => ?_)
    show _ = (mapG _ 4 w.gs i).2.2.2
    rw [mapG_lt hi, shw_r]
theorem n_seesSo {G : SG} {d bk : Nat} {h : AH} {v : MV} {f : Nat → Int32} {w : WS} {g st : Int32} (h5 : MoAt h v) (h6 : RoAt h f) (hR : MR f w) (hb : bk < 8) : SW G mX9_seesSo (d + 1) 0 0 0 [.ref 75, .int g, .int (nI bk), .int st, .retAddr 0, .retAddr 0] [] h (fun r h' => r = some (.int (nI (shwC g bk st w.gs 4))) ∧ SameR h h' ∧ ∃ f', RoAt h' f' ∧ MR f' (w.sg (mapG (shwF g bk st) 4 w.gs))) := by
  have loop : ∀ (c i : Nat) (g1 : AH) (f1 : Nat → Int32), i + c = 4 → SameR h g1 → RoAt g1 f1 → (∀ k, k < i → f1 (21 + 8 * k + bk) = if g = -1 ∨ g = nI k then st else f (21 + 8 * k + bk)) → (∀ j, (∀ k, k < i → j ≠ 21 + 8 * k + bk) → f1 j = f j) → SW G mX9_seesSo (d + 1) 0 0 6 [.ref 75, .int g, .int (nI bk), .int st, .int (nI (shwC g bk st w.gs i)), .int (nI i)] [] g1 (fun r h' => r = some (.int (nI (shwC g bk st w.gs 4))) ∧ SameR h h' ∧ ∃ f', RoAt h' f' ∧ MR f' (w.sg (mapG (shwF g bk st) 4 w.gs))) := by
    intro c
    induction c with
    | zero =>
      intro i g1 f1 hi hS h6 hf ho
      have : i = 4 := by omega
      subst this
      refine sw_iload dX9_seesSo_6 rfl ?_
      refine sw_iconst (v := 4) dX9_seesSo_8 (by decide) ?_
      refine sw_cmpge (tgt := 59) dX9_seesSo_9 (by decide) (fun hc => ?_) (fun hc => ?_)
      · refine sw_iload dX9_seesSo_59 rfl ?_
        exact sw_ireturn dX9_seesSo_61 rfl rfl (⟨rfl, hS, f1, h6, hR.shw hb hf ho⟩)
      · exact absurd (nI_le (a := 4) (b := 4) (Nat.le_refl _) (by omega)) hc
    | succ c ih =>
      intro i g1 f1 hi hS h6 hf ho
      have h5 : MoAt g1 v := (hS.2 75 (by omega)).trans h5
      have hfi : f1 (21 + 8 * i + bk) = (w.gs i).1 bk := (ho _ (by omega)).trans ((hR.2.2.1 i (by omega)).1 bk hb)
      have hfi0 : f (21 + 8 * i + bk) = (w.gs i).1 bk := (hR.2.2.1 i (by omega)).1 bk hb
      have same : ¬ ((g = -1 ∨ g = nI i) ∧ ¬ (w.gs i).1 bk = st) → SW G mX9_seesSo (d + 1) 0 0 53 [.ref 75, .int g, .int (nI bk), .int st, .int (nI (shwC g bk st w.gs i)), .int (nI i)] [] g1 (fun r h' => r = some (.int (nI (shwC g bk st w.gs 4))) ∧ SameR h h' ∧ ∃ f', RoAt h' f' ∧ MR f' (w.sg (mapG (shwF g bk st) 4 w.gs))) := by
        intro hno
        have hsc : shwC g bk st w.gs (i + 1) = shwC g bk st w.gs i := by rw [shwC, if_neg hno, Nat.add_zero]
        rw [← hsc]
        refine sw_iinc (v := nI (i + 1)) dX9_seesSo_53 rfl (nI_1 i) (by decide) rfl ?_
        refine sw_goto (tgt := 6) dX9_seesSo_56 (by decide) ?_
        refine ih (i + 1) g1 f1 (by omega) hS h6 (fun k hk => ?_) (fun j hj => ho j (fun k hk => hj k (by omega)))
        by_cases hki : k = i
        · subst hki
          rw [hfi]
          by_cases hg : g = -1 ∨ g = nI k
          · rw [if_pos hg]
            by_cases hq : (w.gs k).1 bk = st
            · exact hq
            · exact absurd ⟨hg, hq⟩ hno
          · rw [if_neg hg, hfi0]
        · exact hf k (by omega)
      have go : (g = -1 ∨ g = nI i) → SW G mX9_seesSo (d + 1) 0 0 23 [.ref 75, .int g, .int (nI bk), .int st, .int (nI (shwC g bk st w.gs i)), .int (nI i)] [] g1 (fun r h' => r = some (.int (nI (shwC g bk st w.gs 4))) ∧ SameR h h' ∧ ∃ f', RoAt h' f' ∧ MR f' (w.sg (mapG (shwF g bk st) 4 w.gs))) := by
        intro hg
        refine sw_aload_n dX9_seesSo_23 rfl ?_
        refine sw_iload dX9_seesSo_24 rfl ?_
        refine sw_iload_n dX9_seesSo_26 rfl ?_
        refine sw_pcv2 dX9_seesSo_27 cv_X9_50 (rc_of h5 rfl) (n_stateOf (g := i) (b := bk) h5 h6 (by omega) hb) ?_
        rw [hfi]
        refine sw_iload_n dX9_seesSo_30 rfl ?_
        refine sw_cmpeq (tgt := 53) dX9_seesSo_31 (by decide) (fun hq => ?_) (fun hq => ?_)
        · exact same (fun q => q.2 hq)
        · refine sw_aload_n dX9_seesSo_34 rfl ?_
          refine sw_getf dX9_seesSo_35 fl_X9_7 (h5) rfl ?_
          refine sw_bipush (v := 21) dX9_seesSo_38 (by decide) ?_
          refine sw_bipush (v := 8) dX9_seesSo_40 (by decide) ?_
          refine sw_iload dX9_seesSo_42 rfl ?_
          refine sw_imul dX9_seesSo_44 ?_
          refine sw_iadd dX9_seesSo_45 ?_
          refine sw_iload_n dX9_seesSo_46 rfl ?_
          refine sw_iadd dX9_seesSo_47 ?_
          refine sw_iload_n dX9_seesSo_48 rfl ?_
          refine sw_iast dX9_seesSo_49 (h6) (wi (ix3 (a := 21) (c := 8)) (by omega) (by omega)) (fun g2 z2 e2 o2 => ?_)
          rw [wu (show (21 : Int32) + 8 * nI i + nI bk = nI (21 + 8 * i + bk) from ix3) (by omega)] at e2
          have hsc : shwC g bk st w.gs (i + 1) = shwC g bk st w.gs i + 1 := by rw [shwC, if_pos ⟨hg, hq⟩]
          refine sw_iinc (v := nI (shwC g bk st w.gs (i + 1))) dX9_seesSo_50 rfl (by rw [hsc]; exact nI_1 _) (by decide) rfl ?_
          refine sw_iinc (v := nI (i + 1)) dX9_seesSo_53 rfl (nI_1 i) (by decide) rfl ?_
          refine sw_goto (tgt := 6) dX9_seesSo_56 (by decide) ?_
          refine ih (i + 1) g2 _ (by omega) (hS.tr ⟨z2, o2⟩) e2 (fun k hk => ?_) (fun j hj => by rw [upd_ne (hj i (by omega))]; exact ho j (fun k hk => hj k (by omega)))
          by_cases hki : k = i
          · subst hki; rw [upd_at, if_pos hg]
          · rw [upd_ne (by omega)]; exact hf k (by omega)
      refine sw_iload dX9_seesSo_6 rfl ?_
      refine sw_iconst (v := 4) dX9_seesSo_8 (by decide) ?_
      refine sw_cmpge (tgt := 59) dX9_seesSo_9 (by decide) (fun hc => ?_) (fun hc => ?_)
      · exact absurd hc (nI_ge (b := 4) (by omega) (by omega))
      · refine sw_iload_n dX9_seesSo_12 rfl ?_
        refine sw_iconst (v := (-1)) dX9_seesSo_13 (by decide) ?_
        refine sw_cmpeq (tgt := 23) dX9_seesSo_14 (by decide) (fun h1 => ?_) (fun h1 => ?_)
        · exact go (Or.inl h1)
        · refine sw_iload_n dX9_seesSo_17 rfl ?_
          refine sw_iload dX9_seesSo_18 rfl ?_
          refine sw_cmpne (tgt := 53) dX9_seesSo_20 (by decide) (fun h2 => ?_) (fun h2 => ?_)
          · exact same (fun q => q.1.elim h1 h2)
          · exact go (Or.inr h2)
  refine sw_iconst (v := 0) dX9_seesSo_0 (by decide) ?_
  refine sw_istore dX9_seesSo_1 (by decide) rfl ?_
  refine sw_iconst (v := 0) dX9_seesSo_3 (by decide) ?_
  refine sw_istore dX9_seesSo_4 (by decide) rfl ?_
  exact loop 4 0 h f rfl SameR.rf h6 (fun k hk => by omega) (fun j _ => rfl)
theorem cIn.shw {w : WS} {t a r bk : Nat} {g st : Int32} (hC : cIn w t a r) (hb : bk < w.n) : cIn (w.sg (mapG (shwF g bk st) 4 w.gs)) t a r := by
  obtain ⟨hp, hn, hw, ha, hr, hck, hg⟩ := hC
  refine ⟨hp, hn, hw, ha, hr, hck, fun i hi => ?_⟩
  show gOk w.p w.n r t a (mapG _ 4 w.gs i)
  rw [mapG_lt hi]
  obtain ⟨x, y, z, u⟩ := hg i hi
  refine ⟨fun b hbn hb8 => ?_, ?_, ?_, ?_⟩
  · rw [shw_b, if_neg (by omega)]; exact x b hbn hb8
  · rw [shw_r]; exact y
  · rw [shw_r]; exact z
  · rw [shw_r]; exact u
