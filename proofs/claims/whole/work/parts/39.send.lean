def wOk (w : WS) : Prop := (2 < w.p ∧ w.p ≤ 97) ∧ (∃ r, 1 ≤ r ∧ r ≤ 16 ∧ w.rm = nI r) ∧ ∀ i, i < 4 → goOk (w.gs i).2.2.2
def SameT (h h' : AH) (b : Nat) : Prop := h'.length = h.length ∧ ∀ j, j ≠ 4 → j ≠ 6 → j ≠ 7 → j ≠ 8 → (j < b ∨ b + 32 ≤ j) → h'[j]? = h[j]?
theorem SameT.rf {h : AH} {k : Nat} : SameT h h k := ⟨rfl, fun _ _ _ _ _ _ => rfl⟩
theorem SameT.tr {h h1 h2 : AH} {k : Nat} (a : SameT h h1 k) (b : SameT h1 h2 k) : SameT h h2 k := ⟨b.1.trans a.1, fun j x y z w hj => (b.2 j x y z w hj).trans (a.2 j x y z w hj)⟩
theorem SameW.T {h h' : AH} {b : Nat} (a : SameW h h' b) : SameT h h' b := ⟨a.1, fun j _ _ _ _ hj => a.2 j hj⟩
/-- where a packet goes -/
def sndG (w : WS) (gi : Nat) (id : Int32) : Int32 := if kgl (w.gs gi) id = -1 then tbl w.p w.n (upsN (w.gs gi).1 8) w.ks w.wt (slfN id w.p) else kgl (w.gs gi) id
/-- the flows then -/
def sndE (w : WS) (gi : Nat) (id : Int32) : List E3 := if sndG w gi id = -1 then (match fix id (w.gs gi).2.2.2 with
  | none => (w.gs gi).2.2.2
  | some j => (w.gs gi).2.2.2.eraseIdx j) else putL (w.gs gi).2.2.2 id (sndG w gi id) w.ck w.rm
def sndW (w : WS) (gi : Nat) (id : Int32) : WS := w.sg (updG w.gs gi ((w.gs gi).1, (w.gs gi).2.1, (w.gs gi).2.2.1, sndE w gi id))
theorem w_gate_eq {w : WS} {gi : Nat} : w.sg (updG w.gs gi (w.gs gi)) = w := by
  have : updG w.gs gi (w.gs gi) = w.gs := by
    funext j; unfold updG; by_cases h : j = gi
    · rw [if_pos h, h]
    · rw [if_neg h]
  rw [this]; rfl
theorem m_send {G : SG} {d b gi : Nat} {h : AH} {w : WS} {id : Int32} (hW : WorldAt h b w) (hT : TabAt h) (hb : 9 ≤ b) (hgi : gi < 4) (hI : wOk w) : SW G mX7_send (d + 4) 0 0 0 [.ref b, .int (nI gi), .int id, .retAddr 0, .retAddr 0, .retAddr 0] [] h (fun r h' => r = some (.int (sndG w gi id)) ∧ WorldAt h' b (sndW w gi id) ∧ TabAt h' ∧ SameT h h' b) := by
  obtain ⟨⟨hp2, hp97⟩, ⟨rr, hr1, hr16, hre⟩, hgo⟩ := hI
  have tail : ∀ (g : AH), WorldAt g b w → TabAt g → SameT h g b → SW G mX7_send (d + 4) 0 0 61 [.ref b, .int (nI gi), .int id, .ref (b + 4 + 7 * gi), .int (sndG w gi id), .retAddr 0] [] g (fun r h' => r = some (.int (sndG w gi id)) ∧ WorldAt h' b (sndW w gi id) ∧ TabAt h' ∧ SameT h h' b) := by
    intro g hW hT hS
    have hG := hW.2.2.2.2.2 gi hgi
    obtain ⟨fl, go, ti, hA, -⟩ := hG.2.2.2.1
    have h16 := hA.2.2.2.2
    refine sw_iload dX7_send_61 rfl ?_
    refine sw_iconst (v := (-1)) dX7_send_63 (by decide) ?_
    refine sw_cmpeq (tgt := 88) dX7_send_64 (by decide) (fun hc => ?_) (fun hc => ?_)
    · refine sw_aload_n dX7_send_88 rfl ?_
      refine sw_getf dX7_send_89 fl_X7_66 (hG.1) rfl ?_
      refine sw_iload_n dX7_send_92 rfl ?_
      refine sw_cv1 dX7_send_93 cv_X7_107 (rc_of hA.1 rfl) (m_find hG.2.2.2.1) (fun r g1 hq => ?_)
      obtain ⟨rfl, rfl⟩ := hq
      rw [fndL_fix]
      cases hf : fix id (w.gs gi).2.2.2 with
      | none =>
        simp only []
        have hE : sndE w gi id = (w.gs gi).2.2.2 := by unfold sndE; rw [if_pos hc, hf]
        have hWW : sndW w gi id = w := by unfold sndW; rw [hE]; exact w_gate_eq
        refine sw_istore dX7_send_96 (by decide) rfl ?_
        refine sw_iload dX7_send_98 rfl ?_
        refine sw_iconst (v := (-1)) dX7_send_100 (by decide) ?_
        refine sw_cmpeq (tgt := 113) dX7_send_101 (by decide) (fun hq => ?_) (fun hq => ?_)
        · refine sw_iconst (v := (-1)) dX7_send_113 (by decide) ?_
          exact sw_ireturn dX7_send_114 rfl rfl (⟨by rw [hc], by rw [hWW]; exact hW, hT, hS⟩)
        · exact absurd rfl hq
      | some j =>
        simp only [Nat.zero_add]
        obtain ⟨e, he, -⟩ := fix_some hf
        have hj : j < (w.gs gi).2.2.2.length := (List.getElem?_eq_some_iff.mp he).1
        have hE : sndE w gi id = (w.gs gi).2.2.2.eraseIdx j := by unfold sndE; rw [if_pos hc, hf]
        refine sw_istore dX7_send_96 (by decide) rfl ?_
        refine sw_iload dX7_send_98 rfl ?_
        refine sw_iconst (v := (-1)) dX7_send_100 (by decide) ?_
        refine sw_cmpeq (tgt := 113) dX7_send_101 (by decide) (fun hq => ?_) (fun hq => ?_)
        · exact absurd hq (nI_ne_m1 (by omega))
        · refine sw_aload_n dX7_send_104 rfl ?_
          refine sw_getf dX7_send_105 fl_X7_66 (hG.1) rfl ?_
          refine sw_iload dX7_send_108 rfl ?_
          refine sw_cv1 dX7_send_110 cv_X7_110 (rc_of hA.1 rfl) (m_drop hG.2.2.2.1 hj) (fun r g2 hr => ?_)
          obtain ⟨rfl, hM1, hS1⟩ := hr
          obtain ⟨hG1, hS2⟩ := hG.mem hM1 hS1
          obtain ⟨hW2, hS3⟩ := hW.gate hgi hG1 hS2
          refine sw_iconst (v := (-1)) dX7_send_113 (by decide) ?_
          exact sw_ireturn dX7_send_114 rfl rfl (⟨by rw [hc], by unfold sndW; rw [hE]; exact hW2, hT.kept (fun j a b => hS1.2 j (by omega)), hS.tr hS3.T⟩)
    · have hE : sndE w gi id = putL (w.gs gi).2.2.2 id (sndG w gi id) w.ck w.rm := by unfold sndE; rw [if_neg hc]
      have hrm : w.rm - 1 = nI (rr - 1) := by rw [hre]; exact nI_p (by omega)
      refine sw_aload_n dX7_send_67 rfl ?_
      refine sw_getf dX7_send_68 fl_X7_66 (hG.1) rfl ?_
      refine sw_iload_n dX7_send_71 rfl ?_
      refine sw_iload dX7_send_72 rfl ?_
      refine sw_aload_n dX7_send_74 rfl ?_
      refine sw_getf dX7_send_75 fl_X7_32 (hW.1) rfl ?_
      refine sw_aload_n dX7_send_78 rfl ?_
      refine sw_getf dX7_send_79 fl_X7_35 (hW.1) rfl ?_
      refine sw_cv4 dX7_send_82 cv_X7_103 (rc_of hA.1 rfl) (m_put hG.2.2.2.1 (by rw [hrm]; exact nI_pos (by omega)) (by rw [hrm]; have := shrL_len (k := rr - 1) (by omega) 16 (w.gs gi).2.2.2 (by omega) (by omega); omega)) (fun r g2 hr => ?_)
      obtain ⟨rfl, hM1, hS1⟩ := hr
      obtain ⟨hG1, hS2⟩ := hG.mem hM1 hS1
      obtain ⟨hW2, hS3⟩ := hW.gate hgi hG1 hS2
      refine sw_iload dX7_send_85 rfl ?_
      exact sw_ireturn dX7_send_87 rfl rfl (⟨rfl, by unfold sndW; rw [hE]; exact hW2, hT.kept (fun j a b => hS1.2 j (by omega)), hS.tr hS3.T⟩)
  obtain ⟨f, hf, hf4⟩ := hW.2.2.2.1
  have hG := hW.2.2.2.2.2 gi hgi
  refine sw_aload_n dX7_send_0 rfl ?_
  refine sw_getf dX7_send_1 fl_X7_21 (hW.1) rfl ?_
  refine sw_iload_n dX7_send_4 rfl ?_
  refine sw_aald dX7_send_5 (hf) (vp_in_nI (by omega) (by omega)) (nIat (by omega) (hf4 gi hgi)) ?_
  refine sw_astore_n dX7_send_6 (by decide) rfl ?_
  refine sw_aload_n dX7_send_7 rfl ?_
  refine sw_iload_n dX7_send_8 rfl ?_
  refine sw_cv1 dX7_send_9 cv_X7_82 (rc_of hG.1 rfl) (m_knownGoal hG (hgo gi hgi)) (fun r g1 hq => ?_)
  obtain ⟨rfl, rfl⟩ := hq
  refine sw_istore dX7_send_12 (by decide) rfl ?_
  refine sw_iload dX7_send_14 rfl ?_
  refine sw_iconst (v := (-1)) dX7_send_16 (by decide) ?_
  refine sw_cmpne (tgt := 61) dX7_send_17 (by decide) (fun hc => ?_) (fun hc => ?_)
  · have hs : sndG w gi id = kgl (w.gs gi) id := by unfold sndG; rw [if_neg hc]
    have := tail g1 hW hT SameT.rf
    rw [hs] at this ⊢
    exact this
  · have hs : sndG w gi id = tbl w.p w.n (upsN (w.gs gi).1 8) w.ks w.wt (slfN id w.p) := by unfold sndG; rw [if_pos hc]
    obtain ⟨t4, h4⟩ := hT.2.1
    refine sw_aload_n dX7_send_20 rfl ?_
    refine sw_getf dX7_send_21 fl_X7_41 (hW.1) rfl ?_
    refine sw_aload_n dX7_send_24 rfl ?_
    refine sw_getf dX7_send_25 fl_X7_41 (hW.1) rfl ?_
    refine sw_getf dX7_send_28 fl_X7_86 (hT.1) rfl ?_
    refine sw_aload_n dX7_send_31 rfl ?_
    refine sw_aload_n dX7_send_32 rfl ?_
    refine sw_cv0 dX7_send_33 cv_X7_91 (rc_of hG.1 rfl) (m_ups hG) (fun r g2 hq => ?_)
    obtain ⟨rfl, rfl⟩ := hq
    refine sw_aload_n dX7_send_36 rfl ?_
    refine sw_getf dX7_send_37 fl_X7_25 (hW.1) rfl ?_
    refine sw_cv4 dX7_send_40 cv_X7_95 (rc_of hT.1 rfl) (m_mk (o := 4) (b := b) (p := w.p) (m := upsN (w.gs gi).1 8) ⟨⟨by omega, by omega, by omega, by omega⟩, hb, by omega, by omega, by omega⟩ (upsN_lt _ 8) (by omega) hp97 hT hW.WV h4) (fun r g3 hq => ?_)
    obtain ⟨rfl, hSM, hT3, t', e4, ht'⟩ := hq
    have hW3 := hW.kept (h' := g3) (fun j a b => hSM.2 j (by omega) (by omega) (by omega) (by omega))
    refine sw_aload_n dX7_send_43 rfl ?_
    refine sw_getf dX7_send_44 fl_X7_41 (hW3.1) rfl ?_
    refine sw_getf dX7_send_47 fl_X7_86 (hT3.1) rfl ?_
    refine sw_iload_n dX7_send_50 rfl ?_
    refine sw_aload_n dX7_send_51 rfl ?_
    refine sw_getf dX7_send_52 fl_X7_25 (hW3.1) rfl ?_
    refine sw_csn2 dX7_send_55 cs_X7_99 (m_slotOfFlow) (fun r g4 hq => ?_)
    obtain ⟨rfl, rfl⟩ := hq
    rw [show slfI id (nI w.p) = nI (slfN id w.p) from slfI_N (by omega) (by omega)]
    have hsl := slfN_lt (k := id) (p := w.p) (by omega)
    refine sw_iald dX7_send_58 (e4) (vp_in_nI (by omega) (by omega)) (nIat (by omega) ((ht' _ hsl).trans hs.symm)) ?_
    refine sw_istore dX7_send_59 (by decide) rfl ?_
    exact tail g4 hW3 hT3 ⟨hSM.1, fun j a b c d e => hSM.2 j a b c d⟩
/-- a world's cells, whatever they hold -/
def WorldS (h : AH) (b : Nat) : Prop := (∃ (v1 v2 v3 v4 v5 : Int32), h[b]? = some (.inr (5, [.ref (b + 1), .ref (b + 2), .ref (b + 3), .int v1, .int v2, .int v3, .int v4, .int v5, .ref 3]))) ∧ (∃ t, h[b + 1]? = some (.inl (0, 8, .inl t))) ∧ (∃ t, h[b + 2]? = some (.inl (0, 8, .inl t))) ∧ GArr h b ∧ ∀ i, i < 4 → GateS h (b + 4 + 7 * i)
theorem WorldAt.S {h : AH} {b : Nat} {w : WS} (H : WorldAt h b w) : WorldS h b := ⟨⟨_, _, _, _, _, H.1⟩, ⟨_, H.2.1⟩, ⟨_, H.2.2.1⟩, H.2.2.2.1, fun i hi => (H.2.2.2.2.2 i hi).S⟩
theorem WorldS.kept {h h' : AH} {b : Nat} (H : WorldS h b) (hk : ∀ j, b ≤ j → j < b + 32 → h'[j]? = h[j]?) : WorldS h' b := by
  obtain ⟨⟨v1, v2, v3, v4, v5, a⟩, ⟨t1, c⟩, ⟨t2, d⟩, ⟨f, e, e2⟩, g⟩ := H
  exact ⟨⟨v1, v2, v3, v4, v5, (hk _ (by omega) (by omega)).trans a⟩, ⟨t1, (hk _ (by omega) (by omega)).trans c⟩, ⟨t2, (hk _ (by omega) (by omega)).trans d⟩, ⟨f, (hk _ (by omega) (by omega)).trans e, e2⟩, fun i hi => (g i hi).kept (fun j x y => hk j (by omega) (by omega))⟩
/-- two worlds that agree where it counts -/
def wEq (a b : WS) : Prop := (∀ i, i < 8 → a.ks i = b.ks i ∧ a.wt i = b.wt i) ∧ (∀ i, i < 4 → gEq (a.gs i) (b.gs i)) ∧ a.p = b.p ∧ a.n = b.n ∧ a.ck = b.ck ∧ a.rm = b.rm ∧ a.ag = b.ag
theorem m_wcopy {G : SG} {d b q : Nat} {h : AH} {w : WS} (hal : sg_al G = false) (hB : WorldS h b) (hQ : WorldAt h q w) (hbq : b + 32 ≤ q ∨ q + 32 ≤ b) : SW G mX7_copyFrom (d + 3) 0 0 0 [.ref b, .ref q, .retAddr 0] [] h (fun r h' => r = none ∧ (∃ w', wEq w' w ∧ WorldAt h' b w') ∧ SameW h h' b) := by
  have fin : ∀ (g : AH) (gs : Nat → GS) (k1 k2 : Nat → Int32), (∃ (v1 v2 v3 v4 v5 : Int32), g[b]? = some (.inr (5, [.ref (b + 1), .ref (b + 2), .ref (b + 3), .int v1, .int v2, .int v3, .int v4, .int v5, .ref 3]))) → g[b + 1]? = some (.inl (0, 8, .inl k1)) → g[b + 2]? = some (.inl (0, 8, .inl k2)) → (∀ i, i < 8 → k1 i = w.ks i ∧ k2 i = w.wt i) → GArr g b → (∀ i, i < 4 → gEq (gs i) (w.gs i) ∧ GateAt g (b + 4 + 7 * i) (gs i)) → WorldAt g q w → SameW h g b → SW G mX7_copyFrom (d + 3) 0 0 58 [.ref b, .ref q, .int 4] [] g (fun r h' => r = none ∧ (∃ w', wEq w' w ∧ WorldAt h' b w') ∧ SameW h h' b) := by
    intro g gs k1 k2 hv e1 e2 ek hA hG hQ hS
    obtain ⟨v1, v2, v3, v4, v5, e0⟩ := hv
    obtain ⟨f, hf, hf4⟩ := hA
    refine sw_aload_n dX7_copyFrom_58 rfl ?_
    refine sw_aload_n dX7_copyFrom_59 rfl ?_
    refine sw_getf dX7_copyFrom_60 fl_X7_25 (hQ.1) rfl ?_
    refine sw_puti dX7_copyFrom_63 fl_X7_25 (e0) (Nat.le_of_ble_eq_true rfl) (fun g1 z1 e0 o1 => ?_)
    have hQ := hQ.kept (h' := g1) (fun j x y => o1 j (by omega))
    refine sw_aload_n dX7_copyFrom_66 rfl ?_
    refine sw_aload_n dX7_copyFrom_67 rfl ?_
    refine sw_getf dX7_copyFrom_68 fl_X7_29 (hQ.1) rfl ?_
    refine sw_puti dX7_copyFrom_71 fl_X7_29 (e0) (Nat.le_of_ble_eq_true rfl) (fun g2 z2 e0 o2 => ?_)
    have hQ := hQ.kept (h' := g2) (fun j x y => o2 j (by omega))
    refine sw_aload_n dX7_copyFrom_74 rfl ?_
    refine sw_aload_n dX7_copyFrom_75 rfl ?_
    refine sw_getf dX7_copyFrom_76 fl_X7_32 (hQ.1) rfl ?_
    refine sw_puti dX7_copyFrom_79 fl_X7_32 (e0) (Nat.le_of_ble_eq_true rfl) (fun g3 z3 e0 o3 => ?_)
    have hQ := hQ.kept (h' := g3) (fun j x y => o3 j (by omega))
    refine sw_aload_n dX7_copyFrom_82 rfl ?_
    refine sw_aload_n dX7_copyFrom_83 rfl ?_
    refine sw_getf dX7_copyFrom_84 fl_X7_35 (hQ.1) rfl ?_
    refine sw_puti dX7_copyFrom_87 fl_X7_35 (e0) (Nat.le_of_ble_eq_true rfl) (fun g4 z4 e0 o4 => ?_)
    have hQ := hQ.kept (h' := g4) (fun j x y => o4 j (by omega))
    refine sw_aload_n dX7_copyFrom_90 rfl ?_
    refine sw_aload_n dX7_copyFrom_91 rfl ?_
    refine sw_getf dX7_copyFrom_92 fl_X7_38 (hQ.1) rfl ?_
    refine sw_puti dX7_copyFrom_95 fl_X7_38 (e0) (Nat.le_of_ble_eq_true rfl) (fun g5 z5 e0 o5 => ?_)
    have oo : ∀ j, j ≠ b → g5[j]? = g[j]? := fun j hj => (o5 j hj).trans ((o4 j hj).trans ((o3 j hj).trans ((o2 j hj).trans (o1 j hj))))
    exact sw_return dX7_copyFrom_98 rfl (⟨rfl, ⟨(k1, k2, w.2.2.1, w.2.2.2.1, w.2.2.2.2.1, w.2.2.2.2.2.1, w.2.2.2.2.2.2.1, gs), ⟨ek, fun i hi => (hG i hi).1, rfl, rfl, rfl, rfl, rfl⟩, e0, (oo _ (by omega)).trans e1, (oo _ (by omega)).trans e2, ⟨f, (oo _ (by omega)).trans hf, hf4⟩, hQ.2.2.2.2.1, fun i hi => (hG i hi).2.kept (fun j x y => oo j (by omega))⟩, hS.tr ⟨z5.trans (z4.trans (z3.trans (z2.trans z1))), fun j hj => oo j (by omega)⟩⟩)
  have loop : ∀ (k1 k2 : Nat → Int32), (∀ i, i < 8 → k1 i = w.ks i ∧ k2 i = w.wt i) → ∀ (c i : Nat) (g : AH) (gs : Nat → GS), i + c = 4 → (∃ (v1 v2 v3 v4 v5 : Int32), g[b]? = some (.inr (5, [.ref (b + 1), .ref (b + 2), .ref (b + 3), .int v1, .int v2, .int v3, .int v4, .int v5, .ref 3]))) → g[b + 1]? = some (.inl (0, 8, .inl k1)) → g[b + 2]? = some (.inl (0, 8, .inl k2)) → GArr g b → (∀ k, k < i → gEq (gs k) (w.gs k) ∧ GateAt g (b + 4 + 7 * k) (gs k)) → (∀ k, k < 4 → GateS g (b + 4 + 7 * k)) → WorldAt g q w → SameW h g b → SW G mX7_copyFrom (d + 3) 0 0 32 [.ref b, .ref q, .int (nI i)] [] g (fun r h' => r = none ∧ (∃ w', wEq w' w ∧ WorldAt h' b w') ∧ SameW h h' b) := by
    intro k1 k2 ek c
    induction c with
    | zero =>
      intro i g gs hi hv e1 e2 hA hG hGS hQ hS
      have : i = 4 := by omega
      subst this
      refine sw_iload_n dX7_copyFrom_32 rfl ?_
      refine sw_iconst (v := 4) dX7_copyFrom_33 (by decide) ?_
      refine sw_cmpge (tgt := 58) dX7_copyFrom_34 (by decide) (fun hc => ?_) (fun hc => ?_)
      · exact fin g gs k1 k2 hv e1 e2 ek hA hG hQ hS
      · exact absurd (nI_le (a := 4) (b := 4) (Nat.le_refl _) (by omega)) hc
    | succ c ih =>
      intro i g gs hi hv e1 e2 hA hG hGS hQ hS
      obtain ⟨v1, v2, v3, v4, v5, e0⟩ := hv
      obtain ⟨f, hf, hf4⟩ := id hA
      obtain ⟨f2, hf2, hf24⟩ := hQ.2.2.2.1
      have hGQ := hQ.2.2.2.2.2 i (by omega)
      have hGB := hGS i (by omega)
      obtain ⟨v9, s9, k9, hb0, -⟩ := id hGB
      refine sw_iload_n dX7_copyFrom_32 rfl ?_
      refine sw_iconst (v := 4) dX7_copyFrom_33 (by decide) ?_
      refine sw_cmpge (tgt := 58) dX7_copyFrom_34 (by decide) (fun hc => ?_) (fun hc => ?_)
      · exact absurd hc (nI_ge (b := 4) (by omega) (by omega))
      · refine sw_aload_n dX7_copyFrom_37 rfl ?_
        refine sw_getf dX7_copyFrom_38 fl_X7_21 (e0) rfl ?_
        refine sw_iload_n dX7_copyFrom_41 rfl ?_
        refine sw_aald dX7_copyFrom_42 (hf) (vp_in_nI (by omega) (by omega)) (nIat (by omega) (hf4 i (by omega))) ?_
        refine sw_aload_n dX7_copyFrom_43 rfl ?_
        refine sw_getf dX7_copyFrom_44 fl_X7_21 (hQ.1) rfl ?_
        refine sw_iload_n dX7_copyFrom_47 rfl ?_
        refine sw_aald dX7_copyFrom_48 (hf2) (vp_in_nI (by omega) (by omega)) (nIat (by omega) (hf24 i (by omega))) ?_
        refine sw_cv1 dX7_copyFrom_49 cv_X7_51 (rc_of hb0 rfl) (m_gcopy hal hGB hGQ (by omega)) (fun r g1 hq => ?_)
        obtain ⟨rfl, ⟨g', hge, hG1⟩, hS1⟩ := hq
        refine sw_iinc (v := nI (i + 1)) dX7_copyFrom_52 rfl (nI_1 i) (by decide) rfl ?_
        refine sw_goto (tgt := 32) dX7_copyFrom_55 (by decide) ?_
        refine ih (i + 1) g1 (updG gs i g') (by omega) ⟨v1, v2, v3, v4, v5, (hS1.2 _ (by omega)).trans e0⟩ ((hS1.2 _ (by omega)).trans e1) ((hS1.2 _ (by omega)).trans e2) ⟨f, (hS1.2 _ (by omega)).trans hf, hf4⟩ (fun k hk => ?_) (fun k hk => ?_) (hQ.kept (fun j x y => hS1.2 j (by omega))) (hS.tr ⟨hS1.1, fun j hj => hS1.2 j (by omega)⟩)
        · unfold updG
          by_cases hki : k = i
          · rw [if_pos hki, hki]; exact ⟨hge, hG1⟩
          · rw [if_neg hki]
            exact ⟨(hG k (by omega)).1, (hG k (by omega)).2.kept (fun j x y => hS1.2 j (by omega))⟩
        · by_cases hki : k = i
          · rw [hki]; exact hG1.S
          · exact (hGS k hk).kept (fun j x y => hS1.2 j (by omega))
  obtain ⟨⟨v1, v2, v3, v4, v5, e0⟩, ⟨t1, e1⟩, ⟨t2, e2⟩, ⟨f, hf, hf4⟩, hGS⟩ := hB
  refine sw_aload_n dX7_copyFrom_0 rfl ?_
  refine sw_getf dX7_copyFrom_1 fl_X7_9 (hQ.1) rfl ?_
  refine sw_iconst (v := 0) dX7_copyFrom_4 (by decide) ?_
  refine sw_aload_n dX7_copyFrom_5 rfl ?_
  refine sw_getf dX7_copyFrom_6 fl_X7_9 (e0) rfl ?_
  refine sw_iconst (v := 0) dX7_copyFrom_9 (by decide) ?_
  refine sw_bipush (v := 8) dX7_copyFrom_10 (by decide) ?_
  refine sw_cpy dX7_copyFrom_12 w_240 hal (hQ.2.1) (e1) (by decide) (by decide) (by decide) (fun g1 z1 e1 o1 => ?_)
  have hQ := hQ.kept (h' := g1) (fun j x y => o1 j (by omega))
  have e0 := (o1 _ (by omega)).trans e0
  have e2 := (o1 _ (by omega)).trans e2
  refine sw_aload_n dX7_copyFrom_15 rfl ?_
  refine sw_getf dX7_copyFrom_16 fl_X7_15 (hQ.1) rfl ?_
  refine sw_iconst (v := 0) dX7_copyFrom_19 (by decide) ?_
  refine sw_aload_n dX7_copyFrom_20 rfl ?_
  refine sw_getf dX7_copyFrom_21 fl_X7_15 (e0) rfl ?_
  refine sw_iconst (v := 0) dX7_copyFrom_24 (by decide) ?_
  refine sw_bipush (v := 8) dX7_copyFrom_25 (by decide) ?_
  refine sw_cpy dX7_copyFrom_27 w_240 hal (hQ.2.2.1) (e2) (by decide) (by decide) (by decide) (fun g2 z2 e2 o2 => ?_)
  have hQ := hQ.kept (h' := g2) (fun j x y => o2 j (by omega))
  have e0 := (o2 _ (by omega)).trans e0
  have e1 := (o2 _ (by omega)).trans e1
  have oo : ∀ j, j ≠ b + 1 → j ≠ b + 2 → g2[j]? = h[j]? := fun j x y => (o2 j y).trans (o1 j x)
  refine sw_iconst (v := 0) dX7_copyFrom_30 (by decide) ?_
  refine sw_istore_n dX7_copyFrom_31 (by decide) rfl ?_
  refine loop _ _ (fun i hi => ?_) 4 0 g2 w.gs (by omega) ⟨v1, v2, v3, v4, v5, e0⟩ e1 e2 ⟨f, (oo _ (by omega) (by omega)).trans hf, hf4⟩ (fun k hk => by omega) (fun k hk => (hGS k hk).kept (fun j x y => oo j (by omega) (by omega))) hQ ⟨z2.trans z1, fun j hj => oo j (by omega) (by omega)⟩
  rw [show (8 : Int32).toNatClampNeg = 8 by decide, if_pos hi, if_pos hi]
  exact ⟨rfl, rfl⟩
