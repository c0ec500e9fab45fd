/-! tables that the class answers from -/
def wT (w : WS) (m : Nat) : Nat → Int32 := tbl w.p w.n m w.ks w.wt
def wU (w : WS) (gi : Nat) : Nat := upsN (w.gs gi).1 8
theorem wU_lt (w : WS) (gi : Nat) : wU w gi < 256 := upsN_lt _ 8
def rg8 (t : Nat → Int32) (p : Nat) : Prop := ∀ j, j < p → t j = -1 ∨ ∃ c, c < 8 ∧ t j = nI c
theorem tbl_rg8 {p n m : Nat} {ks wt : Nat → Int32} (hn : n ≤ 8) : rg8 (tbl p n m ks wt) p := fun j hj => (tbl_rg p n m ks wt j hj).imp id (fun ⟨c, hc, _, e⟩ => ⟨c, by omega, e⟩)
theorem rg8.cg {t t' : Nat → Int32} {p : Nat} (h : rg8 t p) (he : ∀ j, j < p → t' j = t j) : rg8 t' p := fun j hj => by rw [he j hj]; exact h j hj
theorem k_makeTable {G : SG} {d o b m : Nat} {h : AH} {q : Nat} {w : WS} {t : Nat → Int32} (hO : oOk o b) (hm : m < 256) (hp0 : 1 < w.p) (hp : w.p ≤ 97) (h0 : h[0]? = some (.inr (6, [.ref 1, .ref 3, .ref b, .ref q, .ref 73]))) (hB : TabAt h) (hW : WorldAt h b w) (ho : h[o]? = some (.inl (0, 97, .inl t))) : SW G mX8_makeTable (d + 4) 0 0 0 [.ref 0, .ref o, .int (nI m)] [] h (fun r h' => r = none ∧ SameM h h' o ∧ TabAt h' ∧ ∃ t', h'[o]? = some (.inl (0, 97, .inl t')) ∧ ∀ j, j < w.p → t' j = wT w m j) := by
  refine sw_aload_n dX8_makeTable_0 rfl ?_
  refine sw_getf dX8_makeTable_1 fl_X8_19 (h0) rfl ?_
  refine sw_aload_n dX8_makeTable_4 rfl ?_
  refine sw_aload_n dX8_makeTable_5 rfl ?_
  refine sw_getf dX8_makeTable_6 fl_X8_28 (h0) rfl ?_
  refine sw_iload_n dX8_makeTable_9 rfl ?_
  refine sw_aload_n dX8_makeTable_10 rfl ?_
  refine sw_getf dX8_makeTable_11 fl_X8_28 (h0) rfl ?_
  refine sw_getf dX8_makeTable_14 fl_X8_82 (hW.1) rfl ?_
  refine sw_cv4 dX8_makeTable_17 cv_X8_260 (rc_of hB.1 rfl) (m_mk (p := w.p) hO hm hp0 hp hB hW.WV ho) (fun r g1 hr => ?_)
  obtain ⟨rfl, hr⟩ := hr
  exact sw_return dX8_makeTable_20 rfl (⟨rfl, hr⟩)
theorem oOk4 {b : Nat} (hb : 9 ≤ b) : oOk 4 b := ⟨⟨by omega, by omega, by omega, by omega⟩, hb, by omega, by omega, by omega⟩
theorem oOk5 {b : Nat} (hb : 9 ≤ b) : oOk 5 b := ⟨⟨by omega, by omega, by omega, by omega⟩, hb, by omega, by omega, by omega⟩
theorem oOkK {b gi : Nat} (hb : 9 ≤ b) : oOk (b + 4 + 7 * gi + 2) b := ⟨⟨by omega, by omega, by omega, by omega⟩, hb, by omega, by omega, by omega⟩
theorem WorldAt.M {h h' : AH} {b o : Nat} {w : WS} (hW : WorldAt h b w) (hb : 9 ≤ b) (ho : o < 9) (hS : SameM h h' o) : WorldAt h' b w := hW.kept (fun j x y => hS.2 j (by omega) (by omega) (by omega) (by omega))
def kepW (w : WS) (gi : Nat) (t : Nat → Int32) : WS := w.sg (updG w.gs gi ((w.gs gi).1, t, 1, (w.gs gi).2.2.2))
theorem k_keep {G : SG} {d : Nat} {h : AH} {s : CS} {g : Int32} (hC : CA h s) (hI : wOk s.1) : SW G mX8_keep (d + 8) 0 0 0 [.ref 0, .int g, .retAddr 0] [] h (fun r h' => SameC h h' ∧ ((¬ (0 ≤ g ∧ g ≤ 3) ∧ r = some (.int 0) ∧ CA h' s) ∨ ∃ gi t', gi < 4 ∧ g = nI gi ∧ r = some (.int 1) ∧ (∀ j, j < s.1.p → t' j = wT s.1 (wU s.1 gi) j) ∧ CA h' (kepW s.1 gi t', s.2))) := by
  obtain ⟨b, q, vb, K, nm, H⟩ := hC
  obtain ⟨hbq, h0, hW, hQ, hT, hL, hB⟩ := id H
  have hb : 9 ≤ b := by omega
  refine sw_iload_n dX8_keep_0 rfl ?_
  refine sw_pcs1 dX8_keep_1 cs_X8_112 (m_isGate) ?_
  refine sw_ifne (tgt := 9) dX8_keep_4 (by decide) (fun h1 => ?_) (fun h1 => ?_)
  · have h1 := bz_eq1.mp h1
    obtain ⟨gi, hgi, rfl⟩ := ga_of h1
    obtain ⟨f, hf, hf4⟩ := hW.2.2.2.1
    have hG := hW.2.2.2.2.2 gi hgi
    refine sw_aload_n dX8_keep_9 rfl ?_
    refine sw_getf dX8_keep_10 fl_X8_28 (h0) rfl ?_
    refine sw_getf dX8_keep_13 fl_X8_147 (hW.1) rfl ?_
    refine sw_iload_n dX8_keep_16 rfl ?_
    refine sw_aald dX8_keep_17 (hf) (vp_in_nI (by omega) (by omega)) (nIat (by omega) (hf4 gi hgi)) ?_
    refine sw_astore_n dX8_keep_18 (by decide) rfl ?_
    refine sw_aload_n dX8_keep_19 rfl ?_
    refine sw_aload_n dX8_keep_20 rfl ?_
    refine sw_getf dX8_keep_21 fl_X8_151 (hG.1) rfl ?_
    refine sw_aload_n dX8_keep_24 rfl ?_
    refine sw_pcv0 dX8_keep_25 cv_X8_156 (rc_of hG.1 rfl) (m_ups hG) ?_
    refine sw_cv2 dX8_keep_28 cv_X8_160 (rc_of h0 rfl) (k_makeTable (o := b + 4 + 7 * gi + 2) (m := wU s.1 gi) (oOkK hb) (wU_lt _ _) (by have := hI.1; omega) (by have := hI.1; omega) h0 hB hW hG.2.2.1) (fun r g1 hr => ?_)
    obtain ⟨rfl, hS, hB1, t', e1, ht⟩ := hr
    have hG0 := (hS.2 (b + 4 + 7 * gi) (by omega) (by omega) (by omega) (by omega)).trans hG.1
    refine sw_aload_n dX8_keep_31 rfl ?_
    refine sw_iconst (v := 1) dX8_keep_32 (by decide) ?_
    refine sw_putz dX8_keep_33 fl_X8_164 (Or.inr rfl) (hG0) (Nat.le_of_ble_eq_true rfl) (fun g2 z2 e2 o2 => ?_)
    have hG2 : GateAt g2 (b + 4 + 7 * gi) ((s.1.gs gi).1, t', 1, (s.1.gs gi).2.2.2) := ⟨e2, ((o2 _ (by omega)).trans (hS.2 _ (by omega) (by omega) (by omega) (by omega))).trans hG.2.1, (o2 _ (by omega)).trans e1, hG.2.2.2.1.kept (fun j x y => (o2 _ (by omega)).trans (hS.2 _ (by omega) (by omega) (by omega) (by omega))), Or.inr rfl⟩
    have hW2 : WorldAt g2 b (kepW s.1 gi t') := by
      have oo : ∀ j, 9 ≤ j → j ≠ b + 4 + 7 * gi → j ≠ b + 4 + 7 * gi + 2 → g2[j]? = h[j]? := fun j x y z => (o2 j y).trans (hS.2 j z (by omega) (by omega) (by omega))
      obtain ⟨a, c', d', ⟨f, e, e2⟩, n', g'⟩ := hW
      refine ⟨(oo _ (by omega) (by omega) (by omega)).trans a, (oo _ (by omega) (by omega) (by omega)).trans c', (oo _ (by omega) (by omega) (by omega)).trans d', ⟨f, (oo _ (by omega) (by omega) (by omega)).trans e, e2⟩, n', fun i hi => ?_⟩
      show GateAt g2 (b + 4 + 7 * i) (updG s.1.gs gi _ i)
      unfold updG
      by_cases hii : i = gi
      · rw [if_pos hii, hii]; exact hG2
      · rw [if_neg hii]; exact (g' i hi).kept (fun j x y => oo j (by omega) (by omega) (by omega))
    obtain ⟨H1, HS⟩ := H.U hW2 (hB1.kept (fun j x y => o2 j (by omega))) (SameU.tr (hS.U (Or.inr (by omega))) ⟨z2, fun j x y => o2 j (by omega)⟩)
    refine sw_iconst (v := 1) dX8_keep_36 (by decide) ?_
    exact sw_ireturn dX8_keep_37 rfl rfl (⟨HS, Or.inr ⟨gi, t', hgi, rfl, rfl, ht, H1.A⟩⟩)
  · refine sw_iconst (v := 0) dX8_keep_7 (by decide) ?_
    exact sw_ireturn dX8_keep_8 rfl rfl (⟨SameC.rf, Or.inl ⟨bz_eq0.mp h1, rfl, H.A⟩⟩)
def c_table (s : CS) (g j : Int32) : Int32 := if (0 ≤ g ∧ g ≤ 3) ∧ (0 ≤ j ∧ j < nI s.1.p) then wT s.1 (wU s.1 g.toNatClampNeg) j.toNatClampNeg else -1
theorem k_table {G : SG} {d : Nat} {h : AH} {s : CS} {g j : Int32} (hC : CA h s) (hI : wOk s.1) : SW G mX8_table (d + 8) 0 0 0 [.ref 0, .int g, .int j] [] h (fun r h' => r = some (.int (c_table s g j)) ∧ CA h' s ∧ SameC h h') := by
  obtain ⟨b, q, vb, K, nm, H⟩ := hC
  obtain ⟨hbq, h0, hW, hQ, hT, hL, hB⟩ := id H
  have hb : 9 ≤ b := by omega
  have hp := hI.1
  unfold c_table
  refine sw_iload_n dX8_table_0 rfl ?_
  refine sw_pcs1 dX8_table_1 cs_X8_112 (m_isGate) ?_
  refine sw_ifeq (tgt := 18) dX8_table_4 (by decide) (fun h1 => ?_) (fun h1 => ?_)
  · rw [if_neg (fun q => bz_eq0.mp h1 q.1)]
    refine sw_iconst (v := (-1)) dX8_table_18 (by decide) ?_
    exact sw_ireturn dX8_table_19 rfl rfl (⟨rfl, H.A, SameC.rf⟩)
  · have h1 := bz_eq1.mp h1
    refine sw_aload_n dX8_table_7 rfl ?_
    refine sw_getf dX8_table_8 fl_X8_28 (h0) rfl ?_
    refine sw_iload_n dX8_table_11 rfl ?_
    refine sw_pcv1 dX8_table_12 cv_X8_189 (rc_of hW.1 rfl) (m_isSlot hW) ?_
    refine sw_ifne (tgt := 20) dX8_table_15 (by decide) (fun h2 => ?_) (fun h2 => ?_)
    · have h2 := bz_eq1.mp h2
      rw [if_pos ⟨h1, h2⟩]
      obtain ⟨gi, hgi, rfl⟩ := ga_of h1
      obtain ⟨i, hi, rfl⟩ := ba_of (by omega) h2
      rw [nI_clamp (by omega), nI_clamp (by omega)]
      obtain ⟨f, hf, hf4⟩ := hW.2.2.2.1
      have hG := hW.2.2.2.2.2 gi hgi
      obtain ⟨t4, h4⟩ := hB.2.1
      refine sw_aload_n dX8_table_20 rfl ?_
      refine sw_aload_n dX8_table_21 rfl ?_
      refine sw_getf dX8_table_22 fl_X8_19 (h0) rfl ?_
      refine sw_getf dX8_table_25 fl_X8_195 (hB.1) rfl ?_
      refine sw_aload_n dX8_table_28 rfl ?_
      refine sw_getf dX8_table_29 fl_X8_28 (h0) rfl ?_
      refine sw_getf dX8_table_32 fl_X8_147 (hW.1) rfl ?_
      refine sw_iload_n dX8_table_35 rfl ?_
      refine sw_aald dX8_table_36 (hf) (vp_in_nI (by omega) (by omega)) (nIat (by omega) (hf4 gi hgi)) ?_
      refine sw_pcv0 dX8_table_37 cv_X8_156 (rc_of hG.1 rfl) (m_ups hG) ?_
      refine sw_cv2 dX8_table_40 cv_X8_160 (rc_of h0 rfl) (k_makeTable (o := 4) (m := wU s.1 gi) (oOk4 hb) (wU_lt _ _) (by omega) (by omega) h0 hB hW h4) (fun r g1 hr => ?_)
      obtain ⟨rfl, hS, hB, t', e1, ht⟩ := hr
      have hW := hW.M hb (by omega) hS
      have h0 := (hS.2 0 (by omega) (by omega) (by omega) (by omega)).trans h0
      obtain ⟨H1, HS⟩ := H.U hW hB (hS.U (Or.inl (by omega)))
      refine sw_aload_n dX8_table_43 rfl ?_
      refine sw_getf dX8_table_44 fl_X8_19 (h0) rfl ?_
      refine sw_getf dX8_table_47 fl_X8_195 (hB.1) rfl ?_
      refine sw_iload_n dX8_table_50 rfl ?_
      refine sw_iald dX8_table_51 (e1) (vp_in_nI (by omega) (by omega)) (nIat (by omega) (ht i hi)) ?_
      exact sw_ireturn dX8_table_52 rfl rfl (⟨rfl, H1.A, HS⟩)
    · rw [if_neg (fun q => bz_eq0.mp h2 q.2)]
      refine sw_iconst (v := (-1)) dX8_table_18 (by decide) ?_
      exact sw_ireturn dX8_table_19 rfl rfl (⟨rfl, H.A, SameC.rf⟩)
theorem cntS_congr {t t' : Nat → Int32} {b : Int32} : ∀ n, (∀ j, j < n → t j = t' j) → cntS t b n = cntS t' b n := by
  intro n
  induction n with
  | zero => intro _; rfl
  | succ n ih =>
    intro h
    unfold cntS
    rw [ih (fun j hj => h j (by omega)), h n (by omega)]
def c_share (s : CS) (g b : Int32) : Int32 := if (0 ≤ g ∧ g ≤ 3) ∧ (0 ≤ b ∧ b < nI s.1.n) then nI (cntS (wT s.1 (wU s.1 g.toNatClampNeg)) b s.1.p) else -1
theorem k_share {G : SG} {d : Nat} {h : AH} {s : CS} {g j : Int32} (hC : CA h s) (hI : wOk s.1) : SW G mX8_share (d + 7) 0 0 0 [.ref 0, .int g, .int j] [] h (fun r h' => r = some (.int (c_share s g j)) ∧ CA h' s ∧ SameC h h') := by
  obtain ⟨b, q, vb, K, nm, H⟩ := hC
  obtain ⟨hbq, h0, hW, hQ, hT, hL, hB⟩ := id H
  have hb : 9 ≤ b := by omega
  have hp := hI.1
  have hn := hW.2.2.2.2.1
  unfold c_share
  refine sw_iload_n dX8_share_0 rfl ?_
  refine sw_pcs1 dX8_share_1 cs_X8_112 (m_isGate) ?_
  refine sw_ifeq (tgt := 18) dX8_share_4 (by decide) (fun h1 => ?_) (fun h1 => ?_)
  · rw [if_neg (fun q => bz_eq0.mp h1 q.1)]
    refine sw_iconst (v := (-1)) dX8_share_18 (by decide) ?_
    exact sw_ireturn dX8_share_19 rfl rfl (⟨rfl, H.A, SameC.rf⟩)
  · have h1 := bz_eq1.mp h1
    refine sw_aload_n dX8_share_7 rfl ?_
    refine sw_getf dX8_share_8 fl_X8_28 (h0) rfl ?_
    refine sw_iload_n dX8_share_11 rfl ?_
    refine sw_pcv1 dX8_share_12 cv_X8_106 (rc_of hW.1 rfl) (m_isBackend hW) ?_
    refine sw_ifne (tgt := 20) dX8_share_15 (by decide) (fun h2 => ?_) (fun h2 => ?_)
    · have h2 := bz_eq1.mp h2
      rw [if_pos ⟨h1, h2⟩]
      obtain ⟨gi, hgi, rfl⟩ := ga_of h1
      obtain ⟨i, hi, rfl⟩ := ba_of (by omega) h2
      rw [nI_clamp (by omega)]
      obtain ⟨f, hf, hf4⟩ := hW.2.2.2.1
      have hG := hW.2.2.2.2.2 gi hgi
      obtain ⟨t4, h4⟩ := hB.2.1
      refine sw_aload_n dX8_share_20 rfl ?_
      refine sw_aload_n dX8_share_21 rfl ?_
      refine sw_getf dX8_share_22 fl_X8_19 (h0) rfl ?_
      refine sw_getf dX8_share_25 fl_X8_195 (hB.1) rfl ?_
      refine sw_aload_n dX8_share_28 rfl ?_
      refine sw_getf dX8_share_29 fl_X8_28 (h0) rfl ?_
      refine sw_getf dX8_share_32 fl_X8_147 (hW.1) rfl ?_
      refine sw_iload_n dX8_share_35 rfl ?_
      refine sw_aald dX8_share_36 (hf) (vp_in_nI (by omega) (by omega)) (nIat (by omega) (hf4 gi hgi)) ?_
      refine sw_pcv0 dX8_share_37 cv_X8_156 (rc_of hG.1 rfl) (m_ups hG) ?_
      refine sw_cv2 dX8_share_40 cv_X8_160 (rc_of h0 rfl) (k_makeTable (o := 4) (m := wU s.1 gi) (oOk4 hb) (wU_lt _ _) (by omega) (by omega) h0 hB hW h4) (fun r g1 hr => ?_)
      obtain ⟨rfl, hS, hB, t', e1, ht⟩ := hr
      have hW := hW.M hb (by omega) hS
      have h0 := (hS.2 0 (by omega) (by omega) (by omega) (by omega)).trans h0
      obtain ⟨H1, HS⟩ := H.U hW hB (hS.U (Or.inl (by omega)))
      refine sw_aload_n dX8_share_43 rfl ?_
      refine sw_getf dX8_share_44 fl_X8_19 (h0) rfl ?_
      refine sw_getf dX8_share_47 fl_X8_195 (hB.1) rfl ?_
      refine sw_aload_n dX8_share_50 rfl ?_
      refine sw_getf dX8_share_51 fl_X8_28 (h0) rfl ?_
      refine sw_getf dX8_share_54 fl_X8_82 (hW.1) rfl ?_
      refine sw_iload_n dX8_share_57 rfl ?_
      refine sw_pcs3 dX8_share_58 cs_X8_198 (m_slotsOf e1 (p := s.1.p) (by omega)) ?_
      exact sw_ireturn dX8_share_61 rfl rfl (⟨by rw [cntS_congr _ ht], H1.A, HS⟩)
    · rw [if_neg (fun q => bz_eq0.mp h2 q.2)]
      refine sw_iconst (v := (-1)) dX8_share_18 (by decide) ?_
      exact sw_ireturn dX8_share_19 rfl rfl (⟨rfl, H.A, SameC.rf⟩)
/-! what changes -/
def amB (m : Nat) (v : Int32) : Bool := if v = -1 then false else m.testBit v.toNatClampNeg
def chg (t1 t2 : Nat → Int32) (m : Nat) (z : Int32) : Nat → Nat
  | 0 => 0
  | i + 1 => if ¬ t1 i = t2 i ∧ (z = 0 ∨ amB m (t1 i) = true) then chg t1 t2 m z i + 1 else chg t1 t2 m z i
theorem chg_le (t1 t2 : Nat → Int32) (m : Nat) (z : Int32) : ∀ i, chg t1 t2 m z i ≤ i := by
  intro i
  induction i with
  | zero => exact Nat.le_refl _
  | succ i ih => unfold chg; split <;> omega
theorem chg_congr {t1 t2 t1' t2' : Nat → Int32} {m : Nat} {z : Int32} : ∀ n, (∀ j, j < n → t1 j = t1' j) → (∀ j, j < n → t2 j = t2' j) → chg t1 t2 m z n = chg t1' t2' m z n := by
  intro n
  induction n with
  | zero => intro _ _; rfl
  | succ n ih =>
    intro h1 h2
    unfold chg
    rw [ih (fun j hj => h1 j (by omega)) (fun j hj => h2 j (by omega)), h1 n (by omega), h2 n (by omega)]
theorem am_B {G : SG} {d m : Nat} {h : AH} {v : Int32} (hm : m < 256) (hv : v = -1 ∨ ∃ c, c < 8 ∧ v = nI c) : SW G mX8_isAmong d 0 0 0 [.int (nI m), .int v] [] h (fun r h' => r = some (.int (bz (amB m v = true))) ∧ h' = h) := by
  rcases hv with rfl | ⟨c, hc, rfl⟩
  · exact m_isAmong_m1
  · have : amB m (nI c) = m.testBit c := by unfold amB; rw [if_neg (nI_ne_m1 (by omega)), nI_clamp (by omega)]
    rw [this]
    exact m_isAmong hm hc
theorem k_changes {G : SG} {d o1 o2 b m : Nat} {h : AH} {q : Nat} {w : WS} {t1 t2 : Nat → Int32} {z : Int32} (hm : m < 256) (hp : w.p ≤ 97) (h0 : h[0]? = some (.inr (6, [.ref 1, .ref 3, .ref b, .ref q, .ref 73]))) (hW : WorldAt h b w) (e1 : h[o1]? = some (.inl (0, 97, .inl t1))) (e2 : h[o2]? = some (.inl (0, 97, .inl t2))) (hr : ¬ z = 0 → rg8 t1 w.p) : SW G mX8_changes (d + 1) 0 0 0 [.ref 0, .ref o1, .ref o2, .int (nI m), .int z, .retAddr 0, .retAddr 0] [] h (fun r h' => r = some (.int (nI (chg t1 t2 m z w.p))) ∧ h' = h) := by
  have loop : ∀ (c i : Nat), i + c = w.p → SW G mX8_changes (d + 1) 0 0 6 [.ref 0, .ref o1, .ref o2, .int (nI m), .int z, .int (nI (chg t1 t2 m z i)), .int (nI i)] [] h (fun r h' => r = some (.int (nI (chg t1 t2 m z w.p))) ∧ h' = h) := by
    intro c
    induction c with
    | zero =>
      intro i hi
      have : i = w.p := by omega
      subst this
      refine sw_iload dX8_changes_6 rfl ?_
      refine sw_aload_n dX8_changes_8 rfl ?_
      refine sw_getf dX8_changes_9 fl_X8_28 (h0) rfl ?_
      refine sw_getf dX8_changes_12 fl_X8_82 (hW.1) rfl ?_
      refine sw_cmpge (tgt := 54) dX8_changes_15 (by decide) (fun hc => ?_) (fun hc => ?_)
      · refine sw_iload dX8_changes_54 rfl ?_
        exact sw_ireturn dX8_changes_56 rfl rfl (⟨rfl, rfl⟩)
      · exact absurd (nI_le (Nat.le_refl _) (by omega)) hc
    | succ c ih =>
      intro i hi
      have step : ∀ k : Nat, chg t1 t2 m z (i + 1) = k → SW G mX8_changes (d + 1) 0 0 48 [.ref 0, .ref o1, .ref o2, .int (nI m), .int z, .int (nI k), .int (nI i)] [] h (fun r h' => r = some (.int (nI (chg t1 t2 m z w.p))) ∧ h' = h) := by
        intro k hk
        subst hk
        refine sw_iinc (v := nI (i + 1)) dX8_changes_48 rfl (nI_1 i) (by decide) rfl ?_
        refine sw_goto (tgt := 6) dX8_changes_51 (by decide) ?_
        exact ih (i + 1) (by omega)
      have more : (¬ t1 i = t2 i ∧ (z = 0 ∨ amB m (t1 i) = true)) → SW G mX8_changes (d + 1) 0 0 45 [.ref 0, .ref o1, .ref o2, .int (nI m), .int z, .int (nI (chg t1 t2 m z i)), .int (nI i)] [] h (fun r h' => r = some (.int (nI (chg t1 t2 m z w.p))) ∧ h' = h) := by
        intro hk
        refine sw_iinc (v := nI (chg t1 t2 m z i + 1)) dX8_changes_45 rfl (nI_1 _) (by decide) rfl ?_
        exact step _ (by rw [chg, if_pos hk])
      refine sw_iload dX8_changes_6 rfl ?_
      refine sw_aload_n dX8_changes_8 rfl ?_
      refine sw_getf dX8_changes_9 fl_X8_28 (h0) rfl ?_
      refine sw_getf dX8_changes_12 fl_X8_82 (hW.1) rfl ?_
      refine sw_cmpge (tgt := 54) dX8_changes_15 (by decide) (fun hc => ?_) (fun hc => ?_)
      · exact absurd hc (nI_ge (by omega) (by omega))
      · refine sw_aload_n dX8_changes_18 rfl ?_
        refine sw_iload dX8_changes_19 rfl ?_
        refine sw_iald dX8_changes_21 (e1) (vp_in_nI (by omega) (by omega)) (nIat (by omega) rfl) ?_
        refine sw_aload_n dX8_changes_22 rfl ?_
        refine sw_iload dX8_changes_23 rfl ?_
        refine sw_iald dX8_changes_25 (e2) (vp_in_nI (by omega) (by omega)) (nIat (by omega) rfl) ?_
        refine sw_cmpeq (tgt := 48) dX8_changes_26 (by decide) (fun hq => ?_) (fun hq => ?_)
        · exact step _ (by rw [chg, if_neg (fun x => x.1 hq)])
        · refine sw_iload dX8_changes_29 rfl ?_
          refine sw_ifeq (tgt := 45) dX8_changes_31 (by decide) (fun hz => ?_) (fun hz => ?_)
          · exact more ⟨hq, Or.inl hz⟩
          · refine sw_iload_n dX8_changes_34 rfl ?_
            refine sw_aload_n dX8_changes_35 rfl ?_
            refine sw_iload dX8_changes_36 rfl ?_
            refine sw_iald dX8_changes_38 (e1) (vp_in_nI (by omega) (by omega)) (nIat (by omega) rfl) ?_
            refine sw_pcs2 dX8_changes_39 cs_X8_222 (am_B hm (hr hz i (by omega))) ?_
            refine sw_ifeq (tgt := 48) dX8_changes_42 (by decide) (fun ha => ?_) (fun ha => ?_)
            · exact step _ (by rw [chg, if_neg (fun x => x.2.elim hz (bz_eq0.mp ha))])
            · exact more ⟨hq, Or.inr (bz_eq1.mp ha)⟩
  refine sw_iconst (v := 0) dX8_changes_0 (by decide) ?_
  refine sw_istore dX8_changes_1 (by decide) rfl ?_
  refine sw_iconst (v := 0) dX8_changes_3 (by decide) ?_
  refine sw_istore dX8_changes_4 (by decide) rfl ?_
  exact loop w.p 0 (by omega)
