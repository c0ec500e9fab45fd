/-! class and reference beside one another -/
def eOk (n t a : Nat) (e : E3) : Prop := (∃ i, i ≤ 9999 ∧ e.1 = nI i) ∧ (∃ c, c < n ∧ e.2.1 = nI c) ∧ ∃ t', t' ≤ t ∧ t ≤ t' + a ∧ e.2.2 = nI t'
def gOk (p n r t a : Nat) (x : GS) : Prop := (∀ b, n ≤ b → b < 8 → x.1 b = 0) ∧ (x.2.2.1 = 0 ∨ x.2.2.1 = 1) ∧ (¬ x.2.2.1 = 0 → rg8 x.2.1 p) ∧ Srt x.2.2.2 ∧ x.2.2.2.length ≤ r ∧ ∀ e ∈ x.2.2.2, eOk n t a e
def cIn (w : WS) (t a r : Nat) : Prop := w.p ∈ szN ∧ w.n ≤ 8 ∧ (∀ b, b < w.n → ∃ k, 1 ≤ k ∧ k ≤ 9 ∧ w.wt b = nI k) ∧ a ≤ 99 ∧ (1 ≤ r ∧ r ≤ 16) ∧ (w.ck = nI t ∧ w.ag = nI a ∧ w.rm = nI r) ∧ ∀ g, g < 4 → gOk w.p w.n r t a (w.gs g)
def cOk (w : WS) (T : Nat) : Prop := ∃ t a r, t ≤ T ∧ cIn w t a r
theorem cIn.wOk {w : WS} {t a r : Nat} (h : cIn w t a r) : wOk w := by
  obtain ⟨hp, hn, hw, ha, hr, ⟨e1, e2, e3⟩, hg⟩ := h
  refine ⟨szN_rg _ hp, ⟨r, hr.1, hr.2, e3⟩, fun i hi e he => ?_⟩
  obtain ⟨c, hc, e⟩ := ((hg i hi).2.2.2.2.2 e he).2.1
  exact ⟨c, by omega, e⟩
theorem cIn.kp {w : WS} {t a r : Nat} (h : cIn w t a r) : kpOk w := fun i hi hk => (h.2.2.2.2.2.2 i hi).2.2.1 hk
theorem cOk.wOk {w : WS} {T : Nat} (h : cOk w T) : wOk w := by obtain ⟨t, a, r, -, h⟩ := h; exact h.wOk
theorem wU_n {w : WS} {t a r g : Nat} (h : cIn w t a r) (hg : g < 4) : ∀ b, (wU w g).testBit b = true → b < w.n := by
  intro b hb
  unfold wU at hb
  rw [upsN_bit, Bool.and_eq_true, decide_eq_true_eq, decide_eq_true_eq] at hb
  by_cases hbn : b < w.n
  · exact hbn
  · have := (h.2.2.2.2.2.2 g hg).1 b (by omega) hb.1
    rw [this] at hb
    exact absurd hb.2 (by decide)
theorem wt_ok {w : WS} {t a r : Nat} (h : cIn w t a r) (m : Nat) : wtOk w.n m w.wt := fun b hb _ => h.2.2.1 b hb
def GR (f : Nat → Int32) (g p : Nat) (x : GS) : Prop := (∀ b, b < 8 → f (21 + 8 * g + b) = x.1 b) ∧ f (249 + g) = x.2.2.1 ∧ (¬ x.2.2.1 = 0 → ∀ s, s < p → f (253 + 97 * g + s) = x.2.1 s)
def MR (f : Nat → Int32) (w : WS) : Prop := (f 0 = nI w.p ∧ f 1 = nI w.n ∧ f 2 = w.ck ∧ f 3 = w.rm ∧ f 4 = w.ag) ∧ KW f w.ks w.wt ∧ (∀ g, g < 4 → GR f g w.p (w.gs g)) ∧ MLs f (fun g => (w.gs g).2.2.2)
def SC (h : AH) : Prop := (∃ t : Nat → Int32, h[78]? = some (.inl (0, 97, .inl t))) ∧ (∃ t : Nat → Int32, h[79]? = some (.inl (0, 97, .inl t))) ∧ (∃ t : Nat → Int32, h[80]? = some (.inl (1, 8, .inl t))) ∧ (∃ t : Nat → Int32, h[81]? = some (.inl (0, 8, .inl t))) ∧ ∃ t : Nat → Int32, h[82]? = some (.inl (0, 8, .inl t))
def SameZ (h h' : AH) : Prop := h'.length = h.length ∧ ∀ j, j < 78 ∨ 83 ≤ j → h'[j]? = h[j]?
theorem SameZ.rf {h : AH} : SameZ h h := ⟨rfl, fun _ _ => rfl⟩
theorem SameZ.tr {h h1 h2 : AH} (x : SameZ h h1) (y : SameZ h1 h2) : SameZ h h2 := ⟨y.1.trans x.1, fun j p => (y.2 j p).trans (x.2 j p)⟩
def SameX (h h' : AH) : Prop := h'.length = h.length ∧ ∀ j, j < 76 ∨ j = 77 ∨ 83 ≤ j → h'[j]? = h[j]?
theorem SameX.rf {h : AH} : SameX h h := ⟨rfl, fun _ _ => rfl⟩
theorem SameX.tr {h h1 h2 : AH} (x : SameX h h1) (y : SameX h1 h2) : SameX h h2 := ⟨y.1.trans x.1, fun j p => (y.2 j p).trans (x.2 j p)⟩
theorem SameZ.X {h h' : AH} (x : SameZ h h') : SameX h h' := ⟨x.1, fun j hj => x.2 j (by omega)⟩
theorem SameR.X {h h' : AH} (x : SameR h h') : SameX h h' := ⟨x.1, fun j hj => x.2 j (by omega)⟩
theorem SC.R {h h' : AH} (H : SC h) (x : SameR h h') : SC h' := by
  obtain ⟨⟨a, b⟩, ⟨c, d⟩, ⟨e, f⟩, ⟨g, i⟩, ⟨j, k⟩⟩ := H
  exact ⟨⟨a, (x.2 78 (by omega)).trans b⟩, ⟨c, (x.2 79 (by omega)).trans d⟩, ⟨e, (x.2 80 (by omega)).trans f⟩, ⟨g, (x.2 81 (by omega)).trans i⟩, ⟨j, (x.2 82 (by omega)).trans k⟩⟩
theorem SC.kept {h h' : AH} (H : SC h) (x : ∀ j, 78 ≤ j → j < 83 → h'[j]? = h[j]?) : SC h' := by
  obtain ⟨⟨a, b⟩, ⟨c, d⟩, ⟨e, f⟩, ⟨g, i⟩, ⟨j, k⟩⟩ := H
  exact ⟨⟨a, (x 78 (by omega) (by omega)).trans b⟩, ⟨c, (x 79 (by omega) (by omega)).trans d⟩, ⟨e, (x 80 (by omega) (by omega)).trans f⟩, ⟨g, (x 81 (by omega) (by omega)).trans i⟩, ⟨j, (x 82 (by omega) (by omega)).trans k⟩⟩
def LaidAt (h : AH) (p : Nat) (t : Nat → Int32) : Prop := ∃ t' : Nat → Int32, h[78]? = some (.inl (0, 97, .inl t')) ∧ ∀ j, j < p → t' j = t j
def OthAt (h : AH) (p : Nat) (t : Nat → Int32) : Prop := ∃ t' : Nat → Int32, h[79]? = some (.inl (0, 97, .inl t')) ∧ ∀ j, j < p → t' j = t j
/-- what a gateway sees -/
theorem n_sees {G : SG} {d g n : Nat} {h : AH} {v : MV} {f st : Nat → Int32} (h5 : MoAt h v) (h6 : RoAt h f) (hg : g < 4) (h1 : f 1 = nI n) (hn : n ≤ 8) (hs : ∀ b, b < 8 → f (21 + 8 * g + b) = st b) (hz : ∀ b, n ≤ b → b < 8 → st b = 0) (hU : ∃ t : Nat → Int32, h[80]? = some (.inl (1, 8, .inl t))) : SW G mX9_sees (d + 1) 0 0 0 [.ref 75, .int (nI g), .retAddr 0] [] h (fun r h' => r = none ∧ UpAt h' (upsN st 8) ∧ h'.length = h.length ∧ ∀ j, j ≠ 80 → h'[j]? = h[j]?) := by
  have hbit : ∀ b, b < 8 → ((upsN st 8).testBit b = true ↔ st b = 1) := by
    intro b hb
    rw [upsN_bit, Bool.and_eq_true, decide_eq_true_eq, decide_eq_true_eq]
    exact ⟨fun q => q.2, fun q => ⟨hb, q⟩⟩
  have loop : ∀ (c i : Nat) (g1 : AH) (u : Nat → Int32), i + c = 8 → g1.length = h.length → (∀ j, j ≠ 80 → g1[j]? = h[j]?) → g1[80]? = some (.inl (1, 8, .inl u)) → (∀ b, b < i → u b = bz ((upsN st 8).testBit b = true)) → SW G mX9_sees (d + 1) 0 0 2 [.ref 75, .int (nI g), .int (nI i)] [] g1 (fun r h' => r = none ∧ UpAt h' (upsN st 8) ∧ h'.length = h.length ∧ ∀ j, j ≠ 80 → h'[j]? = h[j]?) := by
    intro c
    induction c with
    | zero =>
      intro i g1 u hi hl hk h80 hu
      have : i = 8 := by omega
      subst this
      refine sw_iload_n dX9_sees_2 rfl ?_
      refine sw_bipush (v := 8) dX9_sees_3 (by decide) ?_
      refine sw_cmpge (tgt := 45) dX9_sees_5 (by decide) (fun hc => ?_) (fun hc => ?_)
      · exact sw_return dX9_sees_45 rfl (⟨rfl, ⟨u, h80, hu⟩, hl, hk⟩)
      · exact absurd (nI_le (a := 8) (b := 8) (Nat.le_refl _) (by omega)) hc
    | succ c ih =>
      intro i g1 u hi hl hk h80 hu
      have h5 : MoAt g1 v := (hk 75 (by omega)).trans h5
      have h6 : RoAt g1 f := (hk 76 (by omega)).trans h6
      have fin : ∀ x : Int32, x = bz ((upsN st 8).testBit i = true) → SW G mX9_sees (d + 1) 0 0 38 [.ref 75, .int (nI g), .int (nI i)] [.int x, .int (nI i), .ref 80] g1 (fun r h' => r = none ∧ UpAt h' (upsN st 8) ∧ h'.length = h.length ∧ ∀ j, j ≠ 80 → h'[j]? = h[j]?) := by
        intro x hx
        have hx01 : x = 0 ∨ x = 1 := by
          rw [hx]; unfold bz; split
          · exact Or.inr rfl
          · exact Or.inl rfl
        refine sw_zast dX9_sees_38 (h80) (vp_in_nI (by omega) (by omega)) (hx01) (fun g2 z2 e2 o2 => ?_)
        rw [nIupd (by omega)] at e2
        refine sw_iinc (v := nI (i + 1)) dX9_sees_39 rfl (nI_1 i) (by decide) rfl ?_
        refine sw_goto (tgt := 2) dX9_sees_42 (by decide) ?_
        refine ih (i + 1) g2 _ (by omega) (z2.trans hl) (fun j hj => (o2 j hj).trans (hk j hj)) e2 (fun b hb => ?_)
        by_cases hbi : b = i
        · subst hbi; rw [upd_at]; exact hx
        · rw [upd_ne hbi]; exact hu b (by omega)
      have i8 : i < 8 := by omega
      refine sw_iload_n dX9_sees_2 rfl ?_
      refine sw_bipush (v := 8) dX9_sees_3 (by decide) ?_
      refine sw_cmpge (tgt := 45) dX9_sees_5 (by decide) (fun hc => ?_) (fun hc => ?_)
      · exact absurd hc (nI_ge (b := 8) (by omega) (by omega))
      · refine sw_aload_n dX9_sees_8 rfl ?_
        refine sw_getf dX9_sees_9 fl_X9_22 (h5) rfl ?_
        refine sw_iload_n dX9_sees_12 rfl ?_
        refine sw_iload_n dX9_sees_13 rfl ?_
        refine sw_aload_n dX9_sees_14 rfl ?_
        refine sw_getf dX9_sees_15 fl_X9_7 (h5) rfl ?_
        refine sw_iconst (v := 1) dX9_sees_18 (by decide) ?_
        refine sw_iald dX9_sees_19 (h6) (vp_in_nI (n := 1) (by omega) (by omega)) (h1) ?_
        refine sw_cmpge (tgt := 37) dX9_sees_20 (by decide) (fun hq => ?_) (fun hq => ?_)
        · have hq := (nI_leI (by omega) (by omega)).mp hq
          refine sw_iconst (v := 0) dX9_sees_37 (by decide) ?_
          refine fin 0 ?_
          rw [bz_0 (fun q => ?_)]
          have := (hbit i i8).mp q
          rw [hz i hq i8] at this
          exact absurd this (by decide)
        · refine sw_aload_n dX9_sees_23 rfl ?_
          refine sw_iload_n dX9_sees_24 rfl ?_
          refine sw_iload_n dX9_sees_25 rfl ?_
          refine sw_pcv2 dX9_sees_26 cv_X9_50 (rc_of h5 rfl) (n_stateOf (g := g) (b := i) h5 h6 hg i8) ?_
          rw [hs i i8]
          refine sw_iconst (v := 1) dX9_sees_29 (by decide) ?_
          refine sw_cmpne (tgt := 37) dX9_sees_30 (by decide) (fun hs1 => ?_) (fun hs1 => ?_)
          · refine sw_iconst (v := 0) dX9_sees_37 (by decide) ?_
            exact fin 0 (by rw [bz_0 (fun q => hs1 ((hbit i i8).mp q))])
          · refine sw_iconst (v := 1) dX9_sees_33 (by decide) ?_
            refine sw_goto (tgt := 38) dX9_sees_34 (by decide) ?_
            exact fin 1 (by rw [bz_1 ((hbit i i8).mpr hs1)])
  obtain ⟨u, h80⟩ := hU
  refine sw_iconst (v := 0) dX9_sees_0 (by decide) ?_
  refine sw_istore_n dX9_sees_1 (by decide) rfl ?_
  exact loop 8 0 h u rfl rfl (fun _ _ => rfl) h80 (fun b hb => by omega)
/-- the table of some that are up, at any size -/
theorem n_laysU {G : SG} {d m p t a r : Nat} {h : AH} {v : MV} {f : Nat → Int32} {w : WS} (h5 : MoAt h v) (h6 : RoAt h f) (hS : SC h) (hR : MR f w) (hC : cIn w t a r) (hU : UpAt h m) (hm : ∀ b, m.testBit b = true → b < w.n) (hp : p ∈ szN) : SW G mX9_lays (d + 3) 0 0 0 [.ref 75, .int (nI p), .retAddr 0, .retAddr 0, .retAddr 0] [] h (fun r h' => r = none ∧ SameZ h h' ∧ SC h' ∧ UpAt h' m ∧ LaidAt h' p (tbl p w.n m w.ks w.wt) ∧ h'[79]? = h[79]?) := by
  obtain ⟨⟨t8, h8⟩, ⟨t9, h9⟩, ⟨t0, h0⟩, ⟨t1, h1⟩, ⟨t2, h2⟩⟩ := hS
  refine (n_lays h5 h6 hR.2.1 hU hm hC.2.1 (wt_ok hC m) hp h8 h1 h2).mono (fun r h' hq => ?_)
  obtain ⟨rfl, hY, ⟨q8, e8, f8⟩, q1, q2⟩ := hq
  refine ⟨rfl, ⟨hY.1, fun j hj => hY.2 j (by omega) (by omega) (by omega)⟩, ⟨⟨_, e8⟩, ⟨t9, (hY.2 79 (by omega) (by omega) (by omega)).trans h9⟩, ⟨t0, (hY.2 80 (by omega) (by omega) (by omega)).trans h0⟩, q1, q2⟩, ?_, ⟨q8, e8, f8⟩, hY.2 79 (by omega) (by omega) (by omega)⟩
  obtain ⟨u, hu, hb⟩ := hU
  exact ⟨u, (hY.2 80 (by omega) (by omega) (by omega)).trans hu, hb⟩
theorem n_seesR {G : SG} {d g t a r : Nat} {h : AH} {v : MV} {f : Nat → Int32} {w : WS} (h5 : MoAt h v) (h6 : RoAt h f) (hS : SC h) (hR : MR f w) (hC : cIn w t a r) (hg : g < 4) : SW G mX9_sees (d + 1) 0 0 0 [.ref 75, .int (nI g), .retAddr 0] [] h (fun r h' => r = none ∧ SameZ h h' ∧ SC h' ∧ UpAt h' (wU w g)) := by
  refine (n_sees (st := (w.gs g).1) h5 h6 hg hR.1.2.1 hC.2.1 (hR.2.2.1 g hg).1 (hC.2.2.2.2.2.2 g hg).1 hS.2.2.1).mono (fun r h' hq => ?_)
  obtain ⟨rfl, hU, hl, hk⟩ := hq
  obtain ⟨⟨t8, h8⟩, ⟨t9, h9⟩, ⟨t0, h0⟩, ⟨t1, h1⟩, ⟨t2, h2⟩⟩ := hS
  obtain ⟨u, hu, hb⟩ := hU
  exact ⟨rfl, ⟨hl, fun j hj => hk j (by omega)⟩, ⟨⟨t8, (hk 78 (by omega)).trans h8⟩, ⟨t9, (hk 79 (by omega)).trans h9⟩, ⟨u, hu⟩, ⟨t1, (hk 81 (by omega)).trans h1⟩, ⟨t2, (hk 82 (by omega)).trans h2⟩⟩, u, hu, hb⟩
theorem n_laysGate {G : SG} {d g t a r : Nat} {h : AH} {v : MV} {f : Nat → Int32} {w : WS} (h5 : MoAt h v) (h6 : RoAt h f) (hS : SC h) (hR : MR f w) (hC : cIn w t a r) (hg : g < 4) : SW G mX9_laysGate (d + 4) 0 0 0 [.ref 75, .int (nI g)] [] h (fun r h' => r = none ∧ SameZ h h' ∧ SC h' ∧ UpAt h' (wU w g) ∧ LaidAt h' w.p (wT w (wU w g)) ∧ (∀ t, h[79]? = some (.inl (0, 97, .inl t)) → h'[79]? = some (.inl (0, 97, .inl t)))) := by
  obtain ⟨⟨t8, h8⟩, ⟨t9, h9⟩, ⟨t0, h0⟩, ⟨t1, h1⟩, ⟨t2, h2⟩⟩ := id hS
  refine sw_aload_n dX9_laysGate_0 rfl ?_
  refine sw_iload_n dX9_laysGate_1 rfl ?_
  refine sw_cv1 dX9_laysGate_2 cv_X9_67 (rc_of h5 rfl) (n_sees (st := (w.gs g).1) h5 h6 hg hR.1.2.1 hC.2.1 (hR.2.2.1 g hg).1 (hC.2.2.2.2.2.2 g hg).1 hS.2.2.1) (fun r g1 hr => ?_)
  obtain ⟨rfl, hU, hl, hk⟩ := hr
  have h5 : MoAt g1 v := (hk 75 (by omega)).trans h5
  have h6 : RoAt g1 f := (hk 76 (by omega)).trans h6
  obtain ⟨u, hu, hb⟩ := hU
  have hS1 : SC g1 := ⟨⟨t8, (hk 78 (by omega)).trans h8⟩, ⟨t9, (hk 79 (by omega)).trans h9⟩, ⟨u, hu⟩, ⟨t1, (hk 81 (by omega)).trans h1⟩, ⟨t2, (hk 82 (by omega)).trans h2⟩⟩
  refine sw_aload_n dX9_laysGate_5 rfl ?_
  refine sw_aload_n dX9_laysGate_6 rfl ?_
  refine sw_getf dX9_laysGate_7 fl_X9_7 (h5) rfl ?_
  refine sw_iconst (v := 0) dX9_laysGate_10 (by decide) ?_
  refine sw_iald dX9_laysGate_11 (h6) (vp_in_nI (n := 0) (by omega) (by omega)) (hR.1.1) ?_
  refine sw_cv1 dX9_laysGate_12 cv_X9_71 (rc_of h5 rfl) (n_laysU (p := w.p) (m := wU w g) h5 h6 hS1 hR hC ⟨u, hu, hb⟩ (wU_n hC hg) hC.1) (fun r g2 hr => ?_)
  obtain ⟨rfl, hZ, hS2, hU2, hL2, h79⟩ := hr
  exact sw_return dX9_laysGate_15 rfl (⟨rfl, ⟨hZ.1.trans hl, fun j hj => (hZ.2 j hj).trans (hk j (by omega))⟩, hS2, hU2, hL2, fun t ht => by rw [h79, hk 79 (by omega)]; exact ht⟩)
theorem n_copiesLaid {G : SG} {d p : Nat} {h : AH} {v : MV} {f t : Nat → Int32} (h5 : MoAt h v) (h6 : RoAt h f) (hS : SC h) (h0 : f 0 = nI p) (hp : p ≤ 97) (hL : LaidAt h p t) : SW G mX9_copiesLaid d 0 0 0 [.ref 75, .retAddr 0] [] h (fun r h' => r = none ∧ h'.length = h.length ∧ (∀ j, j ≠ 79 → h'[j]? = h[j]?) ∧ OthAt h' p t) := by
  obtain ⟨t', h8, ht⟩ := hL
  have loop : ∀ (c i : Nat) (g1 : AH) (u : Nat → Int32), i + c = p → g1.length = h.length → (∀ j, j ≠ 79 → g1[j]? = h[j]?) → g1[79]? = some (.inl (0, 97, .inl u)) → (∀ b, b < i → u b = t b) → SW G mX9_copiesLaid d 0 0 2 [.ref 75, .int (nI i)] [] g1 (fun r h' => r = none ∧ h'.length = h.length ∧ (∀ j, j ≠ 79 → h'[j]? = h[j]?) ∧ OthAt h' p t) := by
    intro c
    induction c with
    | zero =>
      intro i g1 u hi hl hk h79 hu
      have : i = p := by omega
      subst this
      have h5 : MoAt g1 v := (hk 75 (by omega)).trans h5
      have h6 : RoAt g1 f := (hk 76 (by omega)).trans h6
      refine sw_iload_n dX9_copiesLaid_2 rfl ?_
      refine sw_aload_n dX9_copiesLaid_3 rfl ?_
      refine sw_getf dX9_copiesLaid_4 fl_X9_7 (h5) rfl ?_
      refine sw_iconst (v := 0) dX9_copiesLaid_7 (by decide) ?_
      refine sw_iald dX9_copiesLaid_8 (h6) (vp_in_nI (n := 0) (by omega) (by omega)) (h0) ?_
      refine sw_cmpge (tgt := 30) dX9_copiesLaid_9 (by decide) (fun hc => ?_) (fun hc => ?_)
      · exact sw_return dX9_copiesLaid_30 rfl (⟨rfl, hl, hk, u, h79, hu⟩)
      · exact absurd (nI_le (Nat.le_refl _) (by omega)) hc
    | succ c ih =>
      intro i g1 u hi hl hk h79 hu
      have h5 : MoAt g1 v := (hk 75 (by omega)).trans h5
      have h6 : RoAt g1 f := (hk 76 (by omega)).trans h6
      refine sw_iload_n dX9_copiesLaid_2 rfl ?_
      refine sw_aload_n dX9_copiesLaid_3 rfl ?_
      refine sw_getf dX9_copiesLaid_4 fl_X9_7 (h5) rfl ?_
      refine sw_iconst (v := 0) dX9_copiesLaid_7 (by decide) ?_
      refine sw_iald dX9_copiesLaid_8 (h6) (vp_in_nI (n := 0) (by omega) (by omega)) (h0) ?_
      refine sw_cmpge (tgt := 30) dX9_copiesLaid_9 (by decide) (fun hc => ?_) (fun hc => ?_)
      · exact absurd hc (nI_ge (by omega) (by omega))
      · refine sw_aload_n dX9_copiesLaid_12 rfl ?_
        refine sw_getf dX9_copiesLaid_13 fl_X9_19 (h5) rfl ?_
        refine sw_iload_n dX9_copiesLaid_16 rfl ?_
        refine sw_aload_n dX9_copiesLaid_17 rfl ?_
        refine sw_getf dX9_copiesLaid_18 fl_X9_16 (h5) rfl ?_
        refine sw_iload_n dX9_copiesLaid_21 rfl ?_
        refine sw_iald dX9_copiesLaid_22 ((hk 78 (by omega)).trans h8) (vp_in_nI (by omega) (by omega)) (nIat (by omega) (ht i (by omega))) ?_
        refine sw_iast dX9_copiesLaid_23 (h79) (vp_in_nI (by omega) (by omega)) (fun g2 z2 e2 o2 => ?_)
        rw [nIupd (by omega)] at e2
        refine sw_iinc (v := nI (i + 1)) dX9_copiesLaid_24 rfl (nI_1 i) (by decide) rfl ?_
        refine sw_goto (tgt := 2) dX9_copiesLaid_27 (by decide) ?_
        refine ih (i + 1) g2 _ (by omega) (z2.trans hl) (fun j hj => (o2 j hj).trans (hk j hj)) e2 (fun b hb => ?_)
        by_cases hbi : b = i
        · subst hbi; rw [upd_at]
        · rw [upd_ne hbi]; exact hu b (by omega)
  obtain ⟨u, h79⟩ := hS.2.1
  refine sw_iconst (v := 0) dX9_copiesLaid_0 (by decide) ?_
  refine sw_istore_n dX9_copiesLaid_1 (by decide) rfl ?_
  exact loop p 0 h u (by omega) rfl (fun _ _ => rfl) h79 (fun b hb => by omega)
/-- where a packet would go -/
theorem n_goesTo {G : SG} {d g t a r : Nat} {h : AH} {v : MV} {f : Nat → Int32} {w : WS} {id : Int32} (h5 : MoAt h v) (h6 : RoAt h f) (hS : SC h) (hR : MR f w) (hC : cIn w t a r) (hg : g < 4) : SW G mX9_goesTo (d + 5) 0 0 0 [.ref 75, .int (nI g), .int id, .retAddr 0] [] h (fun r h' => r = some (.int (gt1 w g id)) ∧ SameZ h h' ∧ SC h') := by
  have hp := szN_rg _ hC.1
  obtain ⟨ms, hML, hP⟩ := hR.2.2.2 g hg
  have hP : ms.Perm (w.gs g).2.2.2 := hP
  have hG := hC.2.2.2.2.2.2 g hg
  have h16 := hML.2.1
  have lay : ∀ (k : Value), kgl (w.gs g) id = -1 → SW G mX9_goesTo (d + 5) 0 0 33 [.ref 75, .int (nI g), .int id, k] [] h (fun r h' => r = some (.int (gt1 w g id)) ∧ SameZ h h' ∧ SC h') := by
    intro k hk
    refine sw_aload_n dX9_goesTo_33 rfl ?_
    refine sw_iload_n dX9_goesTo_34 rfl ?_
    refine sw_cv1 dX9_goesTo_35 cv_X9_94 (rc_of h5 rfl) (n_laysGate h5 h6 hS hR hC hg) (fun r g1 hr => ?_)
    obtain ⟨rfl, hZ, hS1, hU1, ⟨t', h8, ht⟩, -⟩ := hr
    have h5 : MoAt g1 v := (hZ.2 75 (by omega)).trans h5
    have h6 : RoAt g1 f := (hZ.2 76 (by omega)).trans h6
    have hsl := slfN_lt (k := id) (p := w.p) (by omega)
    have hgt : gt1 w g id = wT w (wU w g) (slfN id w.p) := by unfold gt1; rw [if_pos hk]
    refine sw_aload_n dX9_goesTo_38 rfl ?_
    refine sw_getf dX9_goesTo_39 fl_X9_16 (h5) rfl ?_
    refine sw_aload_n dX9_goesTo_42 rfl ?_
    refine sw_iload_n dX9_goesTo_43 rfl ?_
    refine sw_pcv1 dX9_goesTo_44 cv_X9_97 (rc_of h5 rfl) (n_slotOf h5 h6 hR.1.1 (by omega) (by omega)) ?_
    refine sw_iald dX9_goesTo_47 (h8) (vp_in_nI (by omega) (by omega)) (nIat (by omega) ((ht _ hsl).trans hgt.symm)) ?_
    exact sw_ireturn dX9_goesTo_48 rfl rfl (⟨rfl, hZ, hS1⟩)
  refine sw_aload_n dX9_goesTo_0 rfl ?_
  refine sw_iload_n dX9_goesTo_1 rfl ?_
  refine sw_iload_n dX9_goesTo_2 rfl ?_
  refine sw_pcv2 dX9_goesTo_3 cv_X9_91 (rc_of h5 rfl) (n_placeOf h5 h6 hg hML) ?_
  rw [fndL_fix]
  rcases fix_perm (id := id) hP hG.2.2.2.1 with ⟨q1, q2⟩ | ⟨j, k, e, q1, q2, q3, q4, q5⟩
  · rw [q2]
    simp only []
    refine sw_istore_n dX9_goesTo_6 (by decide) rfl ?_
    refine sw_iload_n dX9_goesTo_7 rfl ?_
    refine sw_iconst (v := (-1)) dX9_goesTo_8 (by decide) ?_
    refine sw_cmpeq (tgt := 33) dX9_goesTo_9 (by decide) (fun hq => ?_) (fun hq => ?_)
    · exact lay _ (by unfold kgl; rw [q1])
    · exact absurd rfl hq
  · rw [q2]
    simp only [Nat.zero_add]
    have hkl := (List.getElem?_eq_some_iff.mp q4).1
    obtain ⟨m1, m2, m3⟩ := hML.2.2 k e q4
    obtain ⟨c, hc8, hce⟩ := (hG.2.2.2.2.2 e (List.mem_of_getElem? q3)).2.1
    have hn8 := hC.2.1
    have kg : kgl (w.gs g) id = if (w.gs g).1 c = 0 then -1 else nI c := by
      unfold kgl
      rw [q1]
      simp only []
      rw [goE_at q3, hce, nI_clamp (by omega)]
    refine sw_istore_n dX9_goesTo_6 (by decide) rfl ?_
    refine sw_iload_n dX9_goesTo_7 rfl ?_
    refine sw_iconst (v := (-1)) dX9_goesTo_8 (by decide) ?_
    refine sw_cmpeq (tgt := 33) dX9_goesTo_9 (by decide) (fun hq => ?_) (fun hq => ?_)
    · exact absurd hq (nI_ne_m1 (by omega))
    · refine sw_aload_n dX9_goesTo_12 rfl ?_
      refine sw_iload_n dX9_goesTo_13 rfl ?_
      refine sw_aload_n dX9_goesTo_14 rfl ?_
      refine sw_iload_n dX9_goesTo_15 rfl ?_
      refine sw_iload_n dX9_goesTo_16 rfl ?_
      refine sw_pcv2 dX9_goesTo_17 cv_X9_77 (rc_of h5 rfl) (n_toOf (g := g) (b := k) h5 h6 hg (by omega)) ?_
      rw [m2, hce]
      refine sw_pcv2 dX9_goesTo_20 cv_X9_50 (rc_of h5 rfl) (n_stateOf (g := g) (b := c) h5 h6 hg (by omega)) ?_
      rw [(hR.2.2.1 g hg).1 c (by omega)]
      refine sw_ifeq (tgt := 33) dX9_goesTo_23 (by decide) (fun hz => ?_) (fun hz => ?_)
      · exact lay _ (by rw [kg, if_pos hz])
      · have hgt : gt1 w g id = nI c := by
          unfold gt1
          rw [kg, if_neg hz, if_neg (nI_ne_m1 (by omega))]
        refine sw_aload_n dX9_goesTo_26 rfl ?_
        refine sw_iload_n dX9_goesTo_27 rfl ?_
        refine sw_iload_n dX9_goesTo_28 rfl ?_
        refine sw_pcv2 dX9_goesTo_29 cv_X9_77 (rc_of h5 rfl) (n_toOf (g := g) (b := k) h5 h6 hg (by omega)) ?_
        rw [m2, hce]
        exact sw_ireturn dX9_goesTo_32 rfl rfl (⟨by rw [hgt], SameZ.rf, hS⟩)
