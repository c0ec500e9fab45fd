def shwF (gate : Int32) (bk : Nat) (state : Int32) (i : Nat) (x : GS) : GS := if (gate = -1 ∨ gate = nI i) ∧ ¬ x.1 bk = state then (upd x.1 bk state, x.2.1, x.2.2.1, x.2.2.2) else x
def shwC (gate : Int32) (bk : Nat) (state : Int32) (f : Nat → GS) : Nat → Nat
  | 0 => 0
  | i + 1 => shwC gate bk state f i + if (gate = -1 ∨ gate = nI i) ∧ ¬ (f i).1 bk = state then 1 else 0
theorem mapG_at (F : Nat → GS → GS) (i : Nat) (f : Nat → GS) : mapG F i f i = f i := by unfold mapG; rw [if_neg (by omega)]
/-- the loop over the gateways is through -/
theorem map_step {w : WS} {F : Nat → GS → GS} {i : Nat} : (w.sg (mapG F i w.gs)).sg (updG (w.sg (mapG F i w.gs)).gs i (F i (w.gs i))) = w.sg (mapG F (i + 1) w.gs) := by
  show w.sg (updG (mapG F i w.gs) i (F i (w.gs i))) = _
  rw [← mapG_step, mapG_at]
theorem map_same {w : WS} {F : Nat → GS → GS} {i : Nat} (h : F i (w.gs i) = w.gs i) : w.sg (mapG F i w.gs) = w.sg (mapG F (i + 1) w.gs) := by
  rw [← map_step, h]
  show w.sg _ = w.sg (updG (mapG F i w.gs) i (w.gs i))
  congr 1
  funext j
  unfold updG
  by_cases hj : j = i
  · rw [if_pos hj, hj, mapG_at]
  · rw [if_neg hj]
theorem m_show {G : SG} {d b bk : Nat} {h : AH} {w : WS} {gate state : Int32} (hW : WorldAt h b w) (hb : bk < 8) : SW G mX7_show d 0 0 0 [.ref b, .int gate, .int (nI bk), .int state, .retAddr 0, .retAddr 0] [] h (fun r h' => r = some (.int (nI (shwC gate bk state w.gs 4))) ∧ WorldAt h' b (w.sg (mapG (shwF gate bk state) 4 w.gs)) ∧ SameW h h' b) := by
  have loop : ∀ (c i : Nat) (g : AH), i + c = 4 → WorldAt g b (w.sg (mapG (shwF gate bk state) i w.gs)) → SameW h g b → SW G mX7_show d 0 0 6 [.ref b, .int gate, .int (nI bk), .int state, .int (nI (shwC gate bk state w.gs i)), .int (nI i)] [] g (fun r h' => r = some (.int (nI (shwC gate bk state w.gs 4))) ∧ WorldAt h' b (w.sg (mapG (shwF gate bk state) 4 w.gs)) ∧ SameW h h' b) := by
    intro c
    induction c with
    | zero =>
      intro i g hi hW1 hS
      have : i = 4 := by omega
      subst this
      refine sw_iload dX7_show_6 rfl ?_
      refine sw_iconst (v := 4) dX7_show_8 (by decide) ?_
      refine sw_cmpge (tgt := 61) dX7_show_9 (by decide) (fun hc => ?_) (fun hc => ?_)
      · refine sw_iload dX7_show_61 rfl ?_
        exact sw_ireturn dX7_show_63 rfl rfl (⟨rfl, hW1, hS⟩)
      · exact absurd (nI_le (a := 4) (b := 4) (Nat.le_refl _) (by omega)) hc
    | succ c ih =>
      intro i g hi hW1 hS
      obtain ⟨f, hf, hf4⟩ := hW1.2.2.2.1
      have hG := hW1.2.2.2.2.2 i (by omega)
      have hgi : (w.sg (mapG (shwF gate bk state) i w.gs)).gs i = w.gs i := mapG_at _ _ _
      rw [hgi] at hG
      have skip : ¬ ((gate = -1 ∨ gate = nI i) ∧ ¬ (w.gs i).1 bk = state) → SW G mX7_show d 0 0 55 [.ref b, .int gate, .int (nI bk), .int state, .int (nI (shwC gate bk state w.gs i)), .int (nI i)] [] g (fun r h' => r = some (.int (nI (shwC gate bk state w.gs 4))) ∧ WorldAt h' b (w.sg (mapG (shwF gate bk state) 4 w.gs)) ∧ SameW h h' b) := by
        intro hn
        have hF : shwF gate bk state i (w.gs i) = w.gs i := by rw [shwF, if_neg hn]
        have hC : shwC gate bk state w.gs (i + 1) = shwC gate bk state w.gs i := by rw [shwC, if_neg hn]; rfl
        refine sw_iinc (v := nI (i + 1)) dX7_show_55 rfl (nI_1 i) (by decide) rfl ?_
        refine sw_goto (tgt := 6) dX7_show_58 (by decide) ?_
        have := ih (i + 1) g (by omega) (by rw [← map_same hF]; exact hW1) hS
        rw [hC] at this
        exact this
      have go : (gate = -1 ∨ gate = nI i) → SW G mX7_show d 0 0 23 [.ref b, .int gate, .int (nI bk), .int state, .int (nI (shwC gate bk state w.gs i)), .int (nI i)] [] g (fun r h' => r = some (.int (nI (shwC gate bk state w.gs 4))) ∧ WorldAt h' b (w.sg (mapG (shwF gate bk state) 4 w.gs)) ∧ SameW h h' b) := by
        intro hg
        refine sw_aload_n dX7_show_23 rfl ?_
        refine sw_getf dX7_show_24 fl_X7_21 (hW1.1) rfl ?_
        refine sw_iload dX7_show_27 rfl ?_
        refine sw_aald dX7_show_29 (hf) (vp_in_nI (by omega) (by omega)) (nIat (by omega) (hf4 i (by omega))) ?_
        refine sw_getf dX7_show_30 fl_X7_63 (hG.1) rfl ?_
        refine sw_iload_n dX7_show_33 rfl ?_
        refine sw_iald dX7_show_34 (hG.2.1) (vp_in_nI (by omega) (by omega)) (nIat (by omega) rfl) ?_
        refine sw_iload_n dX7_show_35 rfl ?_
        refine sw_cmpeq (tgt := 55) dX7_show_36 (by decide) (fun hs => ?_) (fun hs => ?_)
        · exact skip (fun q => q.2 hs)
        · refine sw_aload_n dX7_show_39 rfl ?_
          refine sw_getf dX7_show_40 fl_X7_21 (hW1.1) rfl ?_
          refine sw_iload dX7_show_43 rfl ?_
          refine sw_aald dX7_show_45 (hf) (vp_in_nI (by omega) (by omega)) (nIat (by omega) (hf4 i (by omega))) ?_
          refine sw_getf dX7_show_46 fl_X7_63 (hG.1) rfl ?_
          refine sw_iload_n dX7_show_49 rfl ?_
          refine sw_iload_n dX7_show_50 rfl ?_
          refine sw_iast dX7_show_51 (hG.2.1) (vp_in_nI (by omega) (by omega)) (fun g1 z1 e1 o1 => ?_)
          rw [nIupd (by omega)] at e1
          have hG1 : GateAt g1 (b + 4 + 7 * i) (shwF gate bk state i (w.gs i)) := by
            rw [shwF, if_pos ⟨hg, hs⟩]
            exact ⟨(o1 _ (by omega)).trans hG.1, e1, (o1 _ (by omega)).trans hG.2.2.1, hG.2.2.2.1.kept (fun j x y => o1 j (by omega)), hG.2.2.2.2⟩
          obtain ⟨hW2, hS2⟩ := hW1.gate (k := i) (by omega) hG1 ⟨z1, fun j hj => o1 j (by omega)⟩
          rw [map_step] at hW2
          have hC : shwC gate bk state w.gs (i + 1) = shwC gate bk state w.gs i + 1 := by rw [shwC, if_pos ⟨hg, hs⟩]
          refine sw_iinc (v := nI (shwC gate bk state w.gs i + 1)) dX7_show_52 rfl (nI_1 _) (by decide) rfl ?_
          refine sw_iinc (v := nI (i + 1)) dX7_show_55 rfl (nI_1 i) (by decide) rfl ?_
          refine sw_goto (tgt := 6) dX7_show_58 (by decide) ?_
          have := ih (i + 1) g1 (by omega) hW2 (hS.tr hS2)
          rw [hC] at this
          exact this
      refine sw_iload dX7_show_6 rfl ?_
      refine sw_iconst (v := 4) dX7_show_8 (by decide) ?_
      refine sw_cmpge (tgt := 61) dX7_show_9 (by decide) (fun hc => ?_) (fun hc => ?_)
      · exact absurd hc (nI_ge (b := 4) (by omega) (by omega))
      · refine sw_iload_n dX7_show_12 rfl ?_
        refine sw_iconst (v := (-1)) dX7_show_13 (by decide) ?_
        refine sw_cmpeq (tgt := 23) dX7_show_14 (by decide) (fun ha => ?_) (fun ha => ?_)
        · exact go (Or.inl ha)
        · refine sw_iload_n dX7_show_17 rfl ?_
          refine sw_iload dX7_show_18 rfl ?_
          refine sw_cmpne (tgt := 55) dX7_show_20 (by decide) (fun hg => ?_) (fun hg => ?_)
          · exact skip (fun q => q.1.elim ha hg)
          · exact go (Or.inr hg)
  refine sw_iconst (v := 0) dX7_show_0 (by decide) ?_
  refine sw_istore dX7_show_1 (by decide) rfl ?_
  refine sw_iconst (v := 0) dX7_show_3 (by decide) ?_
  refine sw_istore dX7_show_4 (by decide) rfl ?_
  exact loop 4 0 h (by omega) (by rw [mapG_0]; exact hW) SameW.rf
/-- a backend more -/
def addW (w : WS) (key wgt : Int32) : WS := (upd w.1 w.n key, upd w.2.1 w.n wgt, w.2.2.1, w.n + 1, w.2.2.2.2.1, w.2.2.2.2.2.1, w.2.2.2.2.2.2.1, mapG (shwF (-1) w.n 1) 4 w.gs)
theorem m_addBackend {G : SG} {d b : Nat} {h : AH} {w : WS} {key wgt : Int32} (hW : WorldAt h b w) (hn : w.n < 8) : SW G mX7_addBackend (d + 1) 0 0 0 [.ref b, .int key, .int wgt] [] h (fun r h' => r = none ∧ WorldAt h' b (addW w key wgt) ∧ SameW h h' b) := by
  obtain ⟨h0, h1, h2, ⟨f, hf, hf4⟩, -, hG⟩ := hW
  refine sw_aload_n dX7_addBackend_0 rfl ?_
  refine sw_getf dX7_addBackend_1 fl_X7_29 (h0) rfl ?_
  refine sw_bipush (v := 8) dX7_addBackend_4 (by decide) ?_
  refine sw_cmpge (tgt := 52) dX7_addBackend_6 (by decide) (fun hc => ?_) (fun hc => ?_)
  · exact absurd hc (nI_ge (b := 8) (by omega) (by omega))
  · refine sw_aload_n dX7_addBackend_9 rfl ?_
    refine sw_getf dX7_addBackend_10 fl_X7_9 (h0) rfl ?_
    refine sw_aload_n dX7_addBackend_13 rfl ?_
    refine sw_getf dX7_addBackend_14 fl_X7_29 (h0) rfl ?_
    refine sw_iload_n dX7_addBackend_17 rfl ?_
    refine sw_iast dX7_addBackend_18 (h1) (vp_in_nI (by omega) (by omega)) (fun g1 z1 e1 o1 => ?_)
    rw [nIupd (by omega)] at e1
    have h0 := (o1 _ (by omega)).trans h0
    have h2 := (o1 _ (by omega)).trans h2
    refine sw_aload_n dX7_addBackend_19 rfl ?_
    refine sw_getf dX7_addBackend_20 fl_X7_15 (h0) rfl ?_
    refine sw_aload_n dX7_addBackend_23 rfl ?_
    refine sw_getf dX7_addBackend_24 fl_X7_29 (h0) rfl ?_
    refine sw_iload_n dX7_addBackend_27 rfl ?_
    refine sw_iast dX7_addBackend_28 (h2) (vp_in_nI (by omega) (by omega)) (fun g2 z2 e2 o2 => ?_)
    rw [nIupd (by omega)] at e2
    have h0 := (o2 _ (by omega)).trans h0
    refine sw_aload_n dX7_addBackend_29 rfl ?_
    refine sw_dup dX7_addBackend_30 rfl ?_
    refine sw_getf dX7_addBackend_31 fl_X7_29 (h0) rfl ?_
    refine sw_iconst (v := 1) dX7_addBackend_34 (by decide) ?_
    refine sw_iadd dX7_addBackend_35 ?_
    refine sw_puti dX7_addBackend_36 fl_X7_29 (h0) (Nat.le_of_ble_eq_true rfl) (fun g3 z3 e3 o3 => ?_)
    have hW3 : WorldAt g3 b (upd w.1 w.n key, upd w.2.1 w.n wgt, w.2.2.1, w.n + 1, w.2.2.2.2.1, w.2.2.2.2.2.1, w.2.2.2.2.2.2.1, w.gs) := by
      refine ⟨by rw [nI_1] at e3; exact e3, (o3 _ (by omega)).trans ((o2 _ (by omega)).trans e1), (o3 _ (by omega)).trans e2, ⟨f, (o3 _ (by omega)).trans ((o2 _ (by omega)).trans ((o1 _ (by omega)).trans hf)), hf4⟩, by show w.n + 1 ≤ 8; omega, fun i hi => (hG i hi).kept (fun j x y => (o3 j (by omega)).trans ((o2 j (by omega)).trans (o1 j (by omega))))⟩
    refine sw_aload_n dX7_addBackend_39 rfl ?_
    refine sw_iconst (v := (-1)) dX7_addBackend_40 (by decide) ?_
    refine sw_aload_n dX7_addBackend_41 rfl ?_
    refine sw_getf dX7_addBackend_42 fl_X7_29 (hW3.1) rfl ?_
    refine sw_iconst (v := 1) dX7_addBackend_45 (by decide) ?_
    refine sw_isub dX7_addBackend_46 ?_
    rw [show nI (WS.n (upd w.1 w.n key, upd w.2.1 w.n wgt, w.2.2.1, w.n + 1, w.2.2.2.2.1, w.2.2.2.2.2.1, w.2.2.2.2.2.2.1, w.gs)) - 1 = nI w.n from nI_pred w.n]
    refine sw_iconst (v := 1) dX7_addBackend_47 (by decide) ?_
    refine sw_cv3 dX7_addBackend_48 cv_X7_59 (rc_of hW3.1 rfl) (m_show (bk := w.n) hW3 (by omega)) (fun r g4 hr => ?_)
    obtain ⟨rfl, hW4, hS4⟩ := hr
    refine sw_pop dX7_addBackend_51 rfl ?_
    exact sw_return dX7_addBackend_52 rfl (⟨rfl, hW4, (show SameW h g3 b from ⟨z3.trans (z2.trans z1), fun j hj => (o3 j (by omega)).trans ((o2 j (by omega)).trans (o1 j (by omega)))⟩).tr hS4⟩)
/-- other flows in every gateway -/
def memF (F : List E3 → List E3) (_ : Nat) (g : GS) : GS := (g.1, g.2.1, g.2.2.1, F g.2.2.2)
def rmW (w : WS) (v : Int32) : WS := (w.1, w.2.1, w.2.2.1, w.2.2.2.1, w.2.2.2.2.1, v, w.2.2.2.2.2.2.1, mapG (memF (shrL v 16)) 4 w.gs)
theorem m_changeRoom {G : SG} {d b : Nat} {h : AH} {w : WS} {v : Int32} (hW : WorldAt h b w) (hv : ¬ v < 0) : SW G mX7_changeRoom (d + 3) 0 0 0 [.ref b, .int v, .retAddr 0] [] h (fun r h' => r = none ∧ WorldAt h' b (rmW w v) ∧ SameW h h' b) := by
  have loop : ∀ (w : WS) (hr : w.rm = v) (c i : Nat) (g : AH), i + c = 4 → WorldAt g b (w.sg (mapG (memF (shrL v 16)) i w.gs)) → SameW h g b → SW G mX7_changeRoom (d + 3) 0 0 7 [.ref b, .int v, .int (nI i)] [] g (fun r h' => r = none ∧ WorldAt h' b (w.sg (mapG (memF (shrL v 16)) 4 w.gs)) ∧ SameW h h' b) := by
    intro w hr c
    induction c with
    | zero =>
      intro i g hi hW1 hS
      have : i = 4 := by omega
      subst this
      refine sw_iload_n dX7_changeRoom_7 rfl ?_
      refine sw_iconst (v := 4) dX7_changeRoom_8 (by decide) ?_
      refine sw_cmpge (tgt := 34) dX7_changeRoom_9 (by decide) (fun hc => ?_) (fun hc => ?_)
      · exact sw_return dX7_changeRoom_34 rfl (⟨rfl, hW1, hS⟩)
      · exact absurd (nI_le (a := 4) (b := 4) (Nat.le_refl _) (by omega)) hc
    | succ c ih =>
      intro i g hi hW1 hS
      obtain ⟨f, hf, hf4⟩ := hW1.2.2.2.1
      have hG := hW1.2.2.2.2.2 i (by omega)
      have hgi : (w.sg (mapG (memF (shrL v 16)) i w.gs)).gs i = w.gs i := mapG_at _ _ _
      rw [hgi] at hG
      obtain ⟨fl, go, ti, hA, -⟩ := id hG.2.2.2.1
      refine sw_iload_n dX7_changeRoom_7 rfl ?_
      refine sw_iconst (v := 4) dX7_changeRoom_8 (by decide) ?_
      refine sw_cmpge (tgt := 34) dX7_changeRoom_9 (by decide) (fun hc => ?_) (fun hc => ?_)
      · exact absurd hc (nI_ge (b := 4) (by omega) (by omega))
      · refine sw_aload_n dX7_changeRoom_12 rfl ?_
        refine sw_getf dX7_changeRoom_13 fl_X7_21 (hW1.1) rfl ?_
        refine sw_iload_n dX7_changeRoom_16 rfl ?_
        refine sw_aald dX7_changeRoom_17 (hf) (vp_in_nI (by omega) (by omega)) (nIat (by omega) (hf4 i (by omega))) ?_
        refine sw_getf dX7_changeRoom_18 fl_X7_66 (hG.1) rfl ?_
        refine sw_aload_n dX7_changeRoom_21 rfl ?_
        refine sw_getf dX7_changeRoom_22 fl_X7_35 (hW1.1) rfl ?_
        rw [show (w.sg (mapG (memF (shrL v 16)) i w.gs)).rm = v from hr]
        refine sw_cv1 dX7_changeRoom_25 cv_X7_70 (rc_of hA.1 rfl) (m_shrinkTo hG.2.2.2.1 hv) (fun r g1 hq => ?_)
        obtain ⟨rfl, hM1, hS1⟩ := hq
        obtain ⟨hG1, hS2⟩ := hG.mem hM1 hS1
        obtain ⟨hW2, hS3⟩ := hW1.gate (k := i) (x := memF (shrL v 16) i (w.gs i)) (by omega) hG1 hS2
        rw [map_step] at hW2
        refine sw_iinc (v := nI (i + 1)) dX7_changeRoom_28 rfl (nI_1 i) (by decide) rfl ?_
        refine sw_goto (tgt := 7) dX7_changeRoom_31 (by decide) ?_
        exact ih (i + 1) g1 (by omega) hW2 (hS.tr hS3)
  refine sw_aload_n dX7_changeRoom_0 rfl ?_
  refine sw_iload_n dX7_changeRoom_1 rfl ?_
  refine sw_puti dX7_changeRoom_2 fl_X7_35 (hW.1) (Nat.le_of_ble_eq_true rfl) (fun g1 z1 e1 o1 => ?_)
  obtain ⟨hW1, hS1⟩ := hW.own (w' := (w.1, w.2.1, w.2.2.1, w.2.2.2.1, w.2.2.2.2.1, v, w.2.2.2.2.2.2.1, w.gs)) e1 o1 z1 rfl rfl rfl hW.2.2.2.2.1
  refine sw_iconst (v := 0) dX7_changeRoom_5 (by decide) ?_
  refine sw_istore_n dX7_changeRoom_6 (by decide) rfl ?_
  exact loop (w.1, w.2.1, w.2.2.1, w.2.2.2.1, w.2.2.2.2.1, v, w.2.2.2.2.2.2.1, w.gs) rfl 4 0 g1 (by omega) (by rw [mapG_0]; exact hW1) hS1
def ageW (w : WS) : WS := w.sg (mapG (memF (keepL (w.ck - w.ag))) 4 w.gs)
theorem m_forgetAged {G : SG} {d b : Nat} {h : AH} {w : WS} (hW : WorldAt h b w) : SW G mX7_forgetAged (d + 3) 0 0 0 [.ref b, .retAddr 0] [] h (fun r h' => r = none ∧ WorldAt h' b (ageW w) ∧ SameW h h' b) := by
  have loop : ∀ (c i : Nat) (g : AH), i + c = 4 → WorldAt g b (w.sg (mapG (memF (keepL (w.ck - w.ag))) i w.gs)) → SameW h g b → SW G mX7_forgetAged (d + 3) 0 0 2 [.ref b, .int (nI i)] [] g (fun r h' => r = none ∧ WorldAt h' b (ageW w) ∧ SameW h h' b) := by
    intro c
    induction c with
    | zero =>
      intro i g hi hW1 hS
      have : i = 4 := by omega
      subst this
      refine sw_iload_n dX7_forgetAged_2 rfl ?_
      refine sw_iconst (v := 4) dX7_forgetAged_3 (by decide) ?_
      refine sw_cmpge (tgt := 34) dX7_forgetAged_4 (by decide) (fun hc => ?_) (fun hc => ?_)
      · exact sw_return dX7_forgetAged_34 rfl (⟨rfl, hW1, hS⟩)
      · exact absurd (nI_le (a := 4) (b := 4) (Nat.le_refl _) (by omega)) hc
    | succ c ih =>
      intro i g hi hW1 hS
      obtain ⟨f, hf, hf4⟩ := hW1.2.2.2.1
      have hG := hW1.2.2.2.2.2 i (by omega)
      have hgi : (w.sg (mapG (memF (keepL (w.ck - w.ag))) i w.gs)).gs i = w.gs i := mapG_at _ _ _
      rw [hgi] at hG
      obtain ⟨fl, go, ti, hA, -⟩ := id hG.2.2.2.1
      refine sw_iload_n dX7_forgetAged_2 rfl ?_
      refine sw_iconst (v := 4) dX7_forgetAged_3 (by decide) ?_
      refine sw_cmpge (tgt := 34) dX7_forgetAged_4 (by decide) (fun hc => ?_) (fun hc => ?_)
      · exact absurd hc (nI_ge (b := 4) (by omega) (by omega))
      · refine sw_aload_n dX7_forgetAged_7 rfl ?_
        refine sw_getf dX7_forgetAged_8 fl_X7_21 (hW1.1) rfl ?_
        refine sw_iload_n dX7_forgetAged_11 rfl ?_
        refine sw_aald dX7_forgetAged_12 (hf) (vp_in_nI (by omega) (by omega)) (nIat (by omega) (hf4 i (by omega))) ?_
        refine sw_getf dX7_forgetAged_13 fl_X7_66 (hG.1) rfl ?_
        refine sw_aload_n dX7_forgetAged_16 rfl ?_
        refine sw_getf dX7_forgetAged_17 fl_X7_32 (hW1.1) rfl ?_
        refine sw_aload_n dX7_forgetAged_20 rfl ?_
        refine sw_getf dX7_forgetAged_21 fl_X7_38 (hW1.1) rfl ?_
        refine sw_isub dX7_forgetAged_24 ?_
        refine sw_cv1 dX7_forgetAged_25 cv_X7_79 (rc_of hA.1 rfl) (m_dropBefore hG.2.2.2.1) (fun r g1 hq => ?_)
        obtain ⟨rfl, hM1, hS1⟩ := hq
        obtain ⟨hG1, hS2⟩ := hG.mem hM1 hS1
        obtain ⟨hW2, hS3⟩ := hW1.gate (k := i) (x := memF (keepL (w.ck - w.ag)) i (w.gs i)) (by omega) hG1 hS2
        rw [map_step] at hW2
        refine sw_iinc (v := nI (i + 1)) dX7_forgetAged_28 rfl (nI_1 i) (by decide) rfl ?_
        refine sw_goto (tgt := 2) dX7_forgetAged_31 (by decide) ?_
        exact ih (i + 1) g1 (by omega) hW2 (hS.tr hS3)
  refine sw_iconst (v := 0) dX7_forgetAged_0 (by decide) ?_
  refine sw_istore_n dX7_forgetAged_1 (by decide) rfl ?_
  exact loop 4 0 h (by omega) (by rw [mapG_0]; exact hW) SameW.rf
def agW (w : WS) (v : Int32) : WS := ageW (w.1, w.2.1, w.2.2.1, w.2.2.2.1, w.2.2.2.2.1, w.2.2.2.2.2.1, v, w.gs)
theorem m_changeAge {G : SG} {d b : Nat} {h : AH} {w : WS} {v : Int32} (hW : WorldAt h b w) : SW G mX7_changeAge (d + 4) 0 0 0 [.ref b, .int v] [] h (fun r h' => r = none ∧ WorldAt h' b (agW w v) ∧ SameW h h' b) := by
  refine sw_aload_n dX7_changeAge_0 rfl ?_
  refine sw_iload_n dX7_changeAge_1 rfl ?_
  refine sw_puti dX7_changeAge_2 fl_X7_38 (hW.1) (Nat.le_of_ble_eq_true rfl) (fun g1 z1 e1 o1 => ?_)
  obtain ⟨hW1, hS1⟩ := hW.own (w' := (w.1, w.2.1, w.2.2.1, w.2.2.2.1, w.2.2.2.2.1, w.2.2.2.2.2.1, v, w.gs)) e1 o1 z1 rfl rfl rfl hW.2.2.2.2.1
  refine sw_aload_n dX7_changeAge_5 rfl ?_
  refine sw_cv0 dX7_changeAge_6 cv_X7_76 (rc_of hW1.1 rfl) (m_forgetAged hW1) (fun r g2 hq => ?_)
  obtain ⟨rfl, hW2, hS2⟩ := hq
  exact sw_return dX7_changeAge_9 rfl (⟨rfl, hW2, hS1.tr hS2⟩)
def tckW (w : WS) (v : Int32) : WS := ageW (w.1, w.2.1, w.2.2.1, w.2.2.2.1, w.ck + v, w.2.2.2.2.2.1, w.2.2.2.2.2.2.1, w.gs)
theorem m_passTicks {G : SG} {d b : Nat} {h : AH} {w : WS} {v : Int32} (hW : WorldAt h b w) : SW G mX7_passTicks (d + 4) 0 0 0 [.ref b, .int v] [] h (fun r h' => r = none ∧ WorldAt h' b (tckW w v) ∧ SameW h h' b) := by
  refine sw_aload_n dX7_passTicks_0 rfl ?_
  refine sw_dup dX7_passTicks_1 rfl ?_
  refine sw_getf dX7_passTicks_2 fl_X7_32 (hW.1) rfl ?_
  refine sw_iload_n dX7_passTicks_5 rfl ?_
  refine sw_iadd dX7_passTicks_6 ?_
  refine sw_puti dX7_passTicks_7 fl_X7_32 (hW.1) (Nat.le_of_ble_eq_true rfl) (fun g1 z1 e1 o1 => ?_)
  obtain ⟨hW1, hS1⟩ := hW.own (w' := (w.1, w.2.1, w.2.2.1, w.2.2.2.1, w.ck + v, w.2.2.2.2.2.1, w.2.2.2.2.2.2.1, w.gs)) e1 o1 z1 rfl rfl rfl hW.2.2.2.2.1
  refine sw_aload_n dX7_passTicks_10 rfl ?_
  refine sw_cv0 dX7_passTicks_11 cv_X7_76 (rc_of hW1.1 rfl) (m_forgetAged hW1) (fun r g2 hq => ?_)
  obtain ⟨rfl, hW2, hS2⟩ := hq
  exact sw_return dX7_passTicks_14 rfl (⟨rfl, hW2, hS1.tr hS2⟩)
