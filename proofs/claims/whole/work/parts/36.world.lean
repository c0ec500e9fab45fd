/-! a world of the class: keys, weights, size, backends, clock, room, age, gateways -/
abbrev WS : Type := (Nat → Int32) × (Nat → Int32) × Nat × Nat × Int32 × Int32 × Int32 × (Nat → GS)
abbrev WS.ks (w : WS) : Nat → Int32 := w.1
abbrev WS.wt (w : WS) : Nat → Int32 := w.2.1
abbrev WS.p (w : WS) : Nat := w.2.2.1
abbrev WS.n (w : WS) : Nat := w.2.2.2.1
abbrev WS.ck (w : WS) : Int32 := w.2.2.2.2.1
abbrev WS.rm (w : WS) : Int32 := w.2.2.2.2.2.1
abbrev WS.ag (w : WS) : Int32 := w.2.2.2.2.2.2.1
abbrev WS.gs (w : WS) : Nat → GS := w.2.2.2.2.2.2.2
def wFs (b : Nat) (w : WS) : List Value := [.ref (b + 1), .ref (b + 2), .ref (b + 3), .int (nI w.p), .int (nI w.n), .int w.ck, .int w.rm, .int w.ag, .ref 3]
def GArr (h : AH) (b : Nat) : Prop := ∃ f : Nat → Option Nat, h[b + 3]? = some (.inl (3, 4, .inr (.inr f))) ∧ ∀ i, i < 4 → f i = some (b + 4 + 7 * i)
def WorldAt (h : AH) (b : Nat) (w : WS) : Prop := h[b]? = some (.inr (5, wFs b w)) ∧ h[b + 1]? = some (.inl (0, 8, .inl w.ks)) ∧ h[b + 2]? = some (.inl (0, 8, .inl w.wt)) ∧ GArr h b ∧ w.n ≤ 8 ∧ ∀ i, i < 4 → GateAt h (b + 4 + 7 * i) (w.gs i)
def SameW (h h' : AH) (b : Nat) : Prop := h'.length = h.length ∧ ∀ j, j < b ∨ b + 32 ≤ j → h'[j]? = h[j]?
theorem SameW.rf {h : AH} {k : Nat} : SameW h h k := ⟨rfl, fun _ _ => rfl⟩
theorem SameW.tr {h h1 h2 : AH} {k : Nat} (a : SameW h h1 k) (b : SameW h1 h2 k) : SameW h h2 k := ⟨b.1.trans a.1, fun j hj => (b.2 j hj).trans (a.2 j hj)⟩
theorem WorldAt.kept {h h' : AH} {b : Nat} {w : WS} (H : WorldAt h b w) (hk : ∀ j, b ≤ j → j < b + 32 → h'[j]? = h[j]?) : WorldAt h' b w := by
  obtain ⟨a, c, d, ⟨f, e, e2⟩, n, g⟩ := H
  exact ⟨(hk _ (by omega) (by omega)).trans a, (hk _ (by omega) (by omega)).trans c, (hk _ (by omega) (by omega)).trans d, ⟨f, (hk _ (by omega) (by omega)).trans e, e2⟩, n, fun i hi => (g i hi).kept (fun j x y => hk j (by omega) (by omega))⟩
theorem WorldAt.WV {h : AH} {b : Nat} {w : WS} (H : WorldAt h b w) : WV h b w.n w.ks w.wt := ⟨⟨_, H.1, rfl, rfl, rfl⟩, H.2.1, H.2.2.1, H.2.2.2.2.1⟩
def updG (f : Nat → GS) (k : Nat) (x : GS) : Nat → GS := fun j => if j = k then x else f j
/-- the world, with other gateways -/
def WS.sg (w : WS) (f : Nat → GS) : WS := (w.1, w.2.1, w.2.2.1, w.2.2.2.1, w.2.2.2.2.1, w.2.2.2.2.2.1, w.2.2.2.2.2.2.1, f)
theorem WorldAt.congr {h : AH} {b : Nat} {w : WS} {f : Nat → GS} (H : WorldAt h b w) (hf : ∀ i, i < 4 → f i = w.gs i) : WorldAt h b (w.sg f) := by
  obtain ⟨a, c, d, e, n, g⟩ := H
  exact ⟨a, c, d, e, n, fun i hi => by show GateAt h _ (f i); rw [hf i hi]; exact g i hi⟩
/-- a gateway is another one -/
theorem WorldAt.gate {h h' : AH} {b k : Nat} {w : WS} {x : GS} (H : WorldAt h b w) (hk : k < 4) (hG : GateAt h' (b + 4 + 7 * k) x) (hS : Same7 h h' (b + 4 + 7 * k)) : WorldAt h' b (w.sg (updG w.gs k x)) ∧ SameW h h' b := by
  obtain ⟨a, c, d, ⟨f, e, e2⟩, n, g⟩ := H
  refine ⟨⟨(hS.2 _ (by omega)).trans a, (hS.2 _ (by omega)).trans c, (hS.2 _ (by omega)).trans d, ⟨f, (hS.2 _ (by omega)).trans e, e2⟩, n, fun i hi => ?_⟩, hS.1, fun j hj => hS.2 j (by omega)⟩
  show GateAt h' _ (updG w.gs k x i)
  unfold updG
  by_cases hik : i = k
  · rw [if_pos hik, hik]; exact hG
  · rw [if_neg hik]; exact (g i hi).kept (fun j x y => hS.2 j (by omega))
/-- its own fields are others -/
theorem WorldAt.own {h h' : AH} {b : Nat} {w w' : WS} (H : WorldAt h b w) (h0 : h'[b]? = some (.inr (5, wFs b w'))) (hq : ∀ j, j ≠ b → h'[j]? = h[j]?) (hz : h'.length = h.length) (e1 : w'.ks = w.ks) (e2 : w'.wt = w.wt) (e3 : w'.gs = w.gs) (hn : w'.n ≤ 8) : WorldAt h' b w' ∧ SameW h h' b := by
  obtain ⟨a, c, d, ⟨f, e, e9⟩, n, g⟩ := H
  refine ⟨⟨h0, by rw [e1]; exact (hq _ (by omega)).trans c, by rw [e2]; exact (hq _ (by omega)).trans d, ⟨f, (hq _ (by omega)).trans e, e9⟩, hn, fun i hi => ?_⟩, hz, fun j hj => hq j (by omega)⟩
  rw [e3]
  exact (g i hi).kept (fun j x y => hq j (by omega))
theorem i4 {i : Nat} (h : i < 4) : i < 2 ^ 31 := by omega
theorem m_isBackend {G : SG} {d b : Nat} {h : AH} {w : WS} {v : Int32} (hW : WorldAt h b w) : SW G mX7_isBackend d 0 0 0 [.ref b, .int v] [] h (fun r h' => r = some (.int (bz (0 ≤ v ∧ v < nI w.n))) ∧ h' = h) := by
  refine sw_iload_n dX7_isBackend_0 rfl ?_
  refine sw_iflt (tgt := 16) dX7_isBackend_1 (by decide) (fun hc => ?_) (fun hc => ?_)
  · refine sw_iconst (v := 0) dX7_isBackend_16 (by decide) ?_
    exact sw_ireturn dX7_isBackend_17 rfl rfl (⟨by rw [bz_0 (fun q => Int32.not_le.mpr hc q.1)], rfl⟩)
  · refine sw_iload_n dX7_isBackend_4 rfl ?_
    refine sw_aload_n dX7_isBackend_5 rfl ?_
    refine sw_getf dX7_isBackend_6 fl_X7_29 (hW.1) rfl ?_
    refine sw_cmpge (tgt := 16) dX7_isBackend_9 (by decide) (fun hb => ?_) (fun hb => ?_)
    · refine sw_iconst (v := 0) dX7_isBackend_16 (by decide) ?_
      exact sw_ireturn dX7_isBackend_17 rfl rfl (⟨by rw [bz_0 (fun q => Int32.not_lt.mpr hb q.2)], rfl⟩)
    · refine sw_iconst (v := 1) dX7_isBackend_12 (by decide) ?_
      refine sw_goto (tgt := 17) dX7_isBackend_13 (by decide) ?_
      exact sw_ireturn dX7_isBackend_17 rfl rfl (⟨by rw [bz_1 ⟨Int32.not_lt.mp hc, Int32.not_le.mp hb⟩], rfl⟩)
theorem m_isSlot {G : SG} {d b : Nat} {h : AH} {w : WS} {v : Int32} (hW : WorldAt h b w) : SW G mX7_isSlot d 0 0 0 [.ref b, .int v] [] h (fun r h' => r = some (.int (bz (0 ≤ v ∧ v < nI w.p))) ∧ h' = h) := by
  refine sw_iload_n dX7_isSlot_0 rfl ?_
  refine sw_iflt (tgt := 16) dX7_isSlot_1 (by decide) (fun hc => ?_) (fun hc => ?_)
  · refine sw_iconst (v := 0) dX7_isSlot_16 (by decide) ?_
    exact sw_ireturn dX7_isSlot_17 rfl rfl (⟨by rw [bz_0 (fun q => Int32.not_le.mpr hc q.1)], rfl⟩)
  · refine sw_iload_n dX7_isSlot_4 rfl ?_
    refine sw_aload_n dX7_isSlot_5 rfl ?_
    refine sw_getf dX7_isSlot_6 fl_X7_25 (hW.1) rfl ?_
    refine sw_cmpge (tgt := 16) dX7_isSlot_9 (by decide) (fun hb => ?_) (fun hb => ?_)
    · refine sw_iconst (v := 0) dX7_isSlot_16 (by decide) ?_
      exact sw_ireturn dX7_isSlot_17 rfl rfl (⟨by rw [bz_0 (fun q => Int32.not_lt.mpr hb q.2)], rfl⟩)
    · refine sw_iconst (v := 1) dX7_isSlot_12 (by decide) ?_
      refine sw_goto (tgt := 17) dX7_isSlot_13 (by decide) ?_
      exact sw_ireturn dX7_isSlot_17 rfl rfl (⟨by rw [bz_1 ⟨Int32.not_lt.mp hc, Int32.not_le.mp hb⟩], rfl⟩)
def hasK (ks : Nat → Int32) (key : Int32) : Nat → Nat → Bool
  | 0, _ => false
  | c + 1, i => if ks i = key then true else hasK ks key c (i + 1)
theorem m_hasKey_l {G : SG} {d b : Nat} {h : AH} {w : WS} {v : Int32} {P : Option Value → AH → Prop} (hW : WorldAt h b w) : ∀ (c i : Nat), i + c = w.n → P (some (.int (bz (hasK w.ks v c i = true)))) h → SW G mX7_hasKey d 0 0 2 [.ref b, .int v, .int (nI i)] [] h P := by
  obtain ⟨h0, h1, h2, hg, hn, hG⟩ := hW
  intro c
  induction c with
  | zero =>
    intro i hi hP
    refine sw_iload_n dX7_hasKey_2 rfl ?_
    refine sw_aload_n dX7_hasKey_3 rfl ?_
    refine sw_getf dX7_hasKey_4 fl_X7_29 (h0) rfl ?_
    refine sw_cmpge (tgt := 28) dX7_hasKey_7 (by decide) (fun hc => ?_) (fun hc => ?_)
    · refine sw_iconst (v := 0) dX7_hasKey_28 (by decide) ?_
      exact sw_ireturn dX7_hasKey_29 rfl rfl (by rw [hasK, bz_0 (by simp)] at hP; exact hP)
    · exact absurd (nI_le (by omega) (by omega)) hc
  | succ c ih =>
    intro i hi hP
    refine sw_iload_n dX7_hasKey_2 rfl ?_
    refine sw_aload_n dX7_hasKey_3 rfl ?_
    refine sw_getf dX7_hasKey_4 fl_X7_29 (h0) rfl ?_
    refine sw_cmpge (tgt := 28) dX7_hasKey_7 (by decide) (fun hc => ?_) (fun hc => ?_)
    · exact absurd hc (nI_ge (by omega) (by omega))
    · refine sw_aload_n dX7_hasKey_10 rfl ?_
      refine sw_getf dX7_hasKey_11 fl_X7_9 (h0) rfl ?_
      refine sw_iload_n dX7_hasKey_14 rfl ?_
      refine sw_iald dX7_hasKey_15 (h1) (vp_in_nI (by omega) (by omega)) (nIat (by omega) rfl) ?_
      refine sw_iload_n dX7_hasKey_16 rfl ?_
      refine sw_cmpne (tgt := 22) dX7_hasKey_17 (by decide) (fun hc => ?_) (fun hc => ?_)
      · refine sw_iinc (v := nI (i + 1)) dX7_hasKey_22 rfl (nI_1 i) (by decide) rfl ?_
        refine sw_goto (tgt := 2) dX7_hasKey_25 (by decide) ?_
        exact ih (i + 1) (by omega) (by rw [hasK, if_neg hc] at hP; exact hP)
      · refine sw_iconst (v := 1) dX7_hasKey_20 (by decide) ?_
        exact sw_ireturn dX7_hasKey_21 rfl rfl (by rw [hasK, if_pos hc, bz_1 rfl] at hP; exact hP)
theorem m_hasKey {G : SG} {d b : Nat} {h : AH} {w : WS} {v : Int32} (hW : WorldAt h b w) : SW G mX7_hasKey d 0 0 0 [.ref b, .int v, .retAddr 0] [] h (fun r h' => r = some (.int (bz (hasK w.ks v w.n 0 = true))) ∧ h' = h) := by
  refine sw_iconst (v := 0) dX7_hasKey_0 (by decide) ?_
  refine sw_istore_n dX7_hasKey_1 (by decide) rfl ?_
  exact m_hasKey_l hW w.n 0 (by omega) ⟨rfl, rfl⟩
/-- the first i gateways are changed by F -/
def mapG (F : Nat → GS → GS) (i : Nat) (f : Nat → GS) : Nat → GS := fun j => if j < i then F j (f j) else f j
theorem mapG_step (F : Nat → GS → GS) (i : Nat) (f : Nat → GS) : updG (mapG F i f) i (F i (mapG F i f i)) = mapG F (i + 1) f := by
  funext j
  unfold updG mapG
  by_cases h : j = i
  · rw [if_pos h, h, if_neg (by omega), if_pos (by omega)]
  · rw [if_neg h]
    by_cases h2 : j < i
    · rw [if_pos h2, if_pos (by omega)]
    · rw [if_neg h2, if_neg (by omega)]
theorem mapG_0 (F : Nat → GS → GS) (f : Nat → GS) : mapG F 0 f = f := by
  funext j; unfold mapG; rw [if_neg (by omega)]
theorem WS.sg_sg (w : WS) (f g : Nat → GS) : (w.sg f).sg g = w.sg g := rfl
theorem WS.sg_gs (w : WS) (f : Nat → GS) : (w.sg f).gs = f := rfl
/-- a size -/
def rszW (w : WS) (p : Nat) : WS := (w.1, w.2.1, p, w.2.2.2.1, w.2.2.2.2.1, w.2.2.2.2.2.1, w.2.2.2.2.2.2.1, mapG (fun _ g => (g.1, g.2.1, 0, g.2.2.2)) 4 w.gs)
theorem m_resize {G : SG} {d b p : Nat} {h : AH} {w : WS} (hW : WorldAt h b w) : SW G mX7_resize d 0 0 0 [.ref b, .int (nI p), .retAddr 0] [] h (fun r h' => r = none ∧ WorldAt h' b (rszW w p) ∧ SameW h h' b) := by
  have loop : ∀ (c i : Nat) (g : AH) (w1 : WS), i + c = 4 → w1 = (w.1, w.2.1, p, w.2.2.2.1, w.2.2.2.2.1, w.2.2.2.2.2.1, w.2.2.2.2.2.2.1, mapG (fun _ g => (g.1, g.2.1, 0, g.2.2.2)) i w.gs) → WorldAt g b w1 → SameW h g b → SW G mX7_resize d 0 0 7 [.ref b, .int (nI p), .int (nI i)] [] g (fun r h' => r = none ∧ WorldAt h' b (rszW w p) ∧ SameW h h' b) := by
    intro c
    induction c with
    | zero =>
      intro i g w1 hi he hW1 hS
      have : i = 4 := by omega
      subst this
      refine sw_iload_n dX7_resize_7 rfl ?_
      refine sw_iconst (v := 4) dX7_resize_8 (by decide) ?_
      refine sw_cmpge (tgt := 28) dX7_resize_9 (by decide) (fun hc => ?_) (fun hc => ?_)
      · exact sw_return dX7_resize_28 rfl (⟨rfl, by subst he; exact hW1, hS⟩)
      · exact absurd (nI_le (a := 4) (b := 4) (Nat.le_refl _) (by omega)) hc
    | succ c ih =>
      intro i g w1 hi he hW1 hS
      obtain ⟨f, hf, hf4⟩ := hW1.2.2.2.1
      have hG := hW1.2.2.2.2.2 i (by omega)
      refine sw_iload_n dX7_resize_7 rfl ?_
      refine sw_iconst (v := 4) dX7_resize_8 (by decide) ?_
      refine sw_cmpge (tgt := 28) dX7_resize_9 (by decide) (fun hc => ?_) (fun hc => ?_)
      · exact absurd hc (nI_ge (b := 4) (by omega) (by omega))
      · refine sw_aload_n dX7_resize_12 rfl ?_
        refine sw_getf dX7_resize_13 fl_X7_21 (hW1.1) rfl ?_
        refine sw_iload_n dX7_resize_16 rfl ?_
        refine sw_aald dX7_resize_17 (hf) (vp_in_nI (by omega) (by omega)) (nIat (by omega) (hf4 i (by omega))) ?_
        refine sw_iconst (v := 0) dX7_resize_18 (by decide) ?_
        refine sw_putz dX7_resize_19 fl_X7_55 (Or.inl rfl) (hG.1) (Nat.le_of_ble_eq_true rfl) (fun g1 z1 e1 o1 => ?_)
        have hG1 : GateAt g1 (b + 4 + 7 * i) ((w1.gs i).1, (w1.gs i).2.1, 0, (w1.gs i).2.2.2) := ⟨e1, (o1 _ (by omega)).trans hG.2.1, (o1 _ (by omega)).trans hG.2.2.1, hG.2.2.2.1.kept (fun j x y => o1 j (by omega)), Or.inl rfl⟩
        obtain ⟨hW2, hS2⟩ := hW1.gate (k := i) (by omega) hG1 ⟨z1, fun j hj => o1 j (by omega)⟩
        refine sw_iinc (v := nI (i + 1)) dX7_resize_22 rfl (nI_1 i) (by decide) rfl ?_
        refine sw_goto (tgt := 7) dX7_resize_25 (by decide) ?_
        refine ih (i + 1) g1 _ (by omega) ?_ hW2 (hS.tr hS2)
        subst he
        show WS.sg _ (updG (mapG (fun _ g => (g.1, g.2.1, 0, g.2.2.2)) i w.gs) i _) = _
        rw [← mapG_step]
        rfl
  refine sw_aload_n dX7_resize_0 rfl ?_
  refine sw_iload_n dX7_resize_1 rfl ?_
  refine sw_puti dX7_resize_2 fl_X7_25 (hW.1) (Nat.le_of_ble_eq_true rfl) (fun g1 z1 e1 o1 => ?_)
  obtain ⟨hW1, hS1⟩ := hW.own (w' := (w.1, w.2.1, p, w.2.2.2.1, w.2.2.2.2.1, w.2.2.2.2.2.1, w.2.2.2.2.2.2.1, w.gs)) e1 o1 z1 rfl rfl rfl hW.2.2.2.2.1
  refine sw_iconst (v := 0) dX7_resize_5 (by decide) ?_
  refine sw_istore_n dX7_resize_6 (by decide) rfl ?_
  exact loop 4 0 g1 _ (by omega) (by rw [mapG_0]) hW1 hS1
