/-- those that are not too old stay -/
def keepL (t : Int32) (es : List E3) : List E3 := es.filter (fun e => !decide (e.2.2 < t))
theorem m_dropB_l {G : SG} {d k : Nat} {t : Int32} {es : List E3} {P : Option Value → AH → Prop} {hh : AH} : ∀ (i : Nat) (h : AH), i ≤ es.length → MemAt h k (es.take i ++ keepL t (es.drop i)) → Same4 hh h k → (∀ h', MemAt h' k (keepL t es) → Same4 hh h' k → P none h') → SW G mX2_dropBefore (d + 2) 0 0 7 [.ref k, .int t, .int (nI i - 1)] [] h P := by
  intro i
  induction i with
  | zero =>
    intro h hi hM hS hP
    refine sw_iload_n dX2_dropBefore_7 rfl ?_
    refine sw_iflt (tgt := 32) dX2_dropBefore_8 (by decide) (fun hc => ?_) (fun hc => ?_)
    · exact sw_return dX2_dropBefore_32 rfl (hP h (by simpa using hM) hS)
    · exact absurd (by rw [nI_0]; decide) hc
  | succ i ih =>
    intro h hi hM hS hP
    obtain ⟨e, he⟩ := getE (show i < es.length by omega)
    have hM0 := hM
    obtain ⟨fl, go, ti, hA, hR⟩ := hM0
    have hn := hA.2.2.2.2
    have hlen : (es.take (i + 1)).length = i + 1 := by rw [List.length_take]; omega
    have hle : i + 1 ≤ (es.take (i + 1) ++ keepL t (es.drop (i + 1))).length := by rw [List.length_append]; omega
    have hei : (es.take (i + 1) ++ keepL t (es.drop (i + 1)))[i]? = some e := by
      rw [List.getElem?_append_left (by omega), List.getElem?_take_of_lt (by omega)]; exact he
    have hdr : es.drop i = e :: es.drop (i + 1) := by
      rw [List.drop_eq_getElem_cons (by omega)]
      congr 1
      exact Option.some.inj ((List.getElem?_eq_getElem (by omega)).symm.trans he)
    have htk : es.take (i + 1) = es.take i ++ [e] := by
      rw [List.take_succ, he]; rfl
    rw [nI_p (by omega), Nat.add_sub_cancel]
    refine sw_iload_n dX2_dropBefore_7 rfl ?_
    refine sw_iflt (tgt := 32) dX2_dropBefore_8 (by decide) (fun hc => ?_) (fun hc => ?_)
    · exact absurd hc (nI_pos (by omega))
    · refine sw_aload_n dX2_dropBefore_11 rfl ?_
      refine sw_getf dX2_dropBefore_12 fl_X2_18 hA.1 rfl ?_
      refine sw_iload_n dX2_dropBefore_15 rfl ?_
      refine sw_iald dX2_dropBefore_16 hA.2.2.2.1 (vp_in_nI (by omega) (by omega)) (nIat (by omega) (hR i e hei).2.2) ?_
      refine sw_iload_n dX2_dropBefore_17 rfl ?_
      refine sw_cmpge (tgt := 26) dX2_dropBefore_18 (by decide) (fun hb => ?_) (fun hb => ?_)
      · refine sw_iinc (v := nI i - 1) dX2_dropBefore_26 rfl (by rw [Int32.sub_eq_add_neg]; rfl) (by decide) rfl ?_
        refine sw_goto (tgt := 7) dX2_dropBefore_29 (by decide) ?_
        refine ih h (by omega) ?_ hS hP
        have hk : keepL t (es.drop i) = e :: keepL t (es.drop (i + 1)) := by
          rw [hdr]; unfold keepL; rw [List.filter_cons_of_pos]; simp [Int32.not_lt.mpr hb]
        rw [hk]
        rw [htk, List.append_assoc] at hM
        exact hM
      · refine sw_aload_n dX2_dropBefore_21 rfl ?_
        refine sw_iload_n dX2_dropBefore_22 rfl ?_
        refine sw_cv1 dX2_dropBefore_23 cv_X2_50 (rc_of hA.1 rfl) (m_drop hM (show i < _ by omega)) (fun r g hp => ?_)
        obtain ⟨rfl, hM1, hS1⟩ := hp
        refine sw_iinc (v := nI i - 1) dX2_dropBefore_26 rfl (by rw [Int32.sub_eq_add_neg]; rfl) (by decide) rfl ?_
        refine sw_goto (tgt := 7) dX2_dropBefore_29 (by decide) ?_
        refine ih g (by omega) ?_ (hS.tr hS1) hP
        have hk : keepL t (es.drop i) = keepL t (es.drop (i + 1)) := by
          rw [hdr]; unfold keepL; rw [List.filter_cons_of_neg]; simp [Int32.not_le.mp hb]
        rw [hk]
        have hx : (es.take (i + 1) ++ keepL t (es.drop (i + 1))).eraseIdx i = es.take i ++ keepL t (es.drop (i + 1)) := by
          have hl2 : (es.take i).length = i := by rw [List.length_take]; omega
          rw [htk, List.append_assoc, List.eraseIdx_append_of_length_le (by omega), hl2, Nat.sub_self]
          rfl
        rw [hx] at hM1
        exact hM1
theorem m_dropBefore {G : SG} {d k : Nat} {h : AH} {es : List E3} {t : Int32} (hM : MemAt h k es) : SW G mX2_dropBefore (d + 2) 0 0 0 [.ref k, .int t, .retAddr 0] [] h (fun r h' => r = none ∧ MemAt h' k (keepL t es) ∧ Same4 h h' k) := by
  have hM0 := hM
  obtain ⟨fl, go, ti, hA, hR⟩ := hM0
  refine sw_aload_n dX2_dropBefore_0 rfl ?_
  refine sw_getf dX2_dropBefore_1 fl_X2_21 hA.1 rfl ?_
  refine sw_iconst (v := 1) dX2_dropBefore_4 (by decide) ?_
  refine sw_isub dX2_dropBefore_5 ?_
  refine sw_istore_n dX2_dropBefore_6 (by decide) rfl ?_
  exact m_dropB_l (es := es) es.length h (Nat.le_refl _) (by simpa [keepL] using hM) Same4.rf (fun h' a b => ⟨rfl, a, b⟩)
/-- how many to a backend -/
def cntL (g : Int32) (es : List E3) : Nat := es.countP (fun e => decide (e.2.1 = g))
theorem cntL_le (g : Int32) (es : List E3) : cntL g es ≤ es.length := List.countP_le_length
theorem m_countTo_l {G : SG} {d k : Nat} {h : AH} {es : List E3} {g : Int32} {P : Option Value → AH → Prop} (hM : MemAt h k es) : ∀ (r : List E3) (i n : Nat), es.drop i = r → i ≤ es.length → P (some (.int (nI (n + cntL g r)))) h → SW G mX2_countTo d 0 0 4 [.ref k, .int g, .int (nI n), .int (nI i)] [] h P := by
  obtain ⟨fl, go, ti, ⟨h0, h1, h2, h3, hn⟩, hR⟩ := hM
  intro r
  induction r with
  | nil =>
    intro i n hd hi hP
    have hl := dropN hd
    refine sw_iload_n dX2_countTo_4 rfl ?_
    refine sw_aload_n dX2_countTo_5 rfl ?_
    refine sw_getf dX2_countTo_6 fl_X2_21 h0 rfl ?_
    refine sw_cmpge (tgt := 31) dX2_countTo_9 (by decide) (fun hc => ?_) (fun hc => ?_)
    · refine sw_iload_n dX2_countTo_31 rfl ?_
      exact sw_ireturn dX2_countTo_32 rfl rfl (hP)
    · exact absurd (nI_le hl (by omega)) hc
  | cons e r ih =>
    intro i n hd hi hP
    obtain ⟨he, hd', hl⟩ := dropC hd
    refine sw_iload_n dX2_countTo_4 rfl ?_
    refine sw_aload_n dX2_countTo_5 rfl ?_
    refine sw_getf dX2_countTo_6 fl_X2_21 h0 rfl ?_
    refine sw_cmpge (tgt := 31) dX2_countTo_9 (by decide) (fun hc => ?_) (fun hc => ?_)
    · exact absurd hc (nI_ge hl (by omega))
    · refine sw_aload_n dX2_countTo_12 rfl ?_
      refine sw_getf dX2_countTo_13 fl_X2_15 h0 rfl ?_
      refine sw_iload_n dX2_countTo_16 rfl ?_
      refine sw_iald dX2_countTo_17 h2 (vp_in_nI (by omega) (by omega)) (nIat (by omega) (hR i e he).2.1) ?_
      refine sw_iload_n dX2_countTo_18 rfl ?_
      refine sw_cmpne (tgt := 25) dX2_countTo_19 (by decide) (fun hc => ?_) (fun hc => ?_)
      · refine sw_iinc (v := nI (i + 1)) dX2_countTo_25 rfl (nI_1 i) (by decide) rfl ?_
        refine sw_goto (tgt := 4) dX2_countTo_28 (by decide) ?_
        exact ih (i + 1) n hd' hl (by unfold cntL at hP ⊢; rw [List.countP_cons_of_neg (by simpa using hc)] at hP; exact hP)
      · refine sw_iinc (v := nI (n + 1)) dX2_countTo_22 rfl (nI_1 n) (by decide) rfl ?_
        refine sw_iinc (v := nI (i + 1)) dX2_countTo_25 rfl (nI_1 i) (by decide) rfl ?_
        refine sw_goto (tgt := 4) dX2_countTo_28 (by decide) ?_
        exact ih (i + 1) (n + 1) hd' hl (by unfold cntL at hP ⊢; rw [List.countP_cons_of_pos (by simpa using hc)] at hP; rw [show n + 1 + List.countP (fun e => decide (e.2.1 = g)) r = n + (List.countP (fun e => decide (e.2.1 = g)) r + 1) by omega]; exact hP)
theorem m_countTo {G : SG} {d k : Nat} {h : AH} {es : List E3} {g : Int32} (hM : MemAt h k es) : SW G mX2_countTo d 0 0 0 [.ref k, .int g, .retAddr 0, .retAddr 0] [] h (fun r h' => r = some (.int (nI (cntL g es))) ∧ h' = h) := by
  refine sw_iconst (v := 0) dX2_countTo_0 (by decide) ?_
  refine sw_istore_n dX2_countTo_1 (by decide) rfl ?_
  refine sw_iconst (v := 0) dX2_countTo_2 (by decide) ?_
  refine sw_istore_n dX2_countTo_3 (by decide) rfl ?_
  exact m_countTo_l hM es 0 0 rfl (Nat.zero_le _) ⟨by rw [Nat.zero_add], rfl⟩
/-- the latest tick to a backend -/
def latL (g : Int32) : List E3 → Int32 → Int32
  | [], a => a
  | e :: r, a => latL g r (if e.2.1 = g then (if a < e.2.2 then e.2.2 else a) else a)
theorem m_latestTo_l {G : SG} {d k : Nat} {h : AH} {es : List E3} {g : Int32} {P : Option Value → AH → Prop} (hM : MemAt h k es) : ∀ (r : List E3) (i : Nat) (a : Int32), es.drop i = r → i ≤ es.length → P (some (.int (latL g r a))) h → SW G mX2_latestTo (d + 1) 0 0 4 [.ref k, .int g, .int a, .int (nI i)] [] h P := by
  obtain ⟨fl, go, ti, ⟨h0, h1, h2, h3, hn⟩, hR⟩ := hM
  intro r
  induction r with
  | nil =>
    intro i a hd hi hP
    have hl := dropN hd
    refine sw_iload_n dX2_latestTo_4 rfl ?_
    refine sw_aload_n dX2_latestTo_5 rfl ?_
    refine sw_getf dX2_latestTo_6 fl_X2_21 h0 rfl ?_
    refine sw_cmpge (tgt := 39) dX2_latestTo_9 (by decide) (fun hc => ?_) (fun hc => ?_)
    · refine sw_iload_n dX2_latestTo_39 rfl ?_
      exact sw_ireturn dX2_latestTo_40 rfl rfl (hP)
    · exact absurd (nI_le hl (by omega)) hc
  | cons e r ih =>
    intro i a hd hi hP
    obtain ⟨he, hd', hl⟩ := dropC hd
    refine sw_iload_n dX2_latestTo_4 rfl ?_
    refine sw_aload_n dX2_latestTo_5 rfl ?_
    refine sw_getf dX2_latestTo_6 fl_X2_21 h0 rfl ?_
    refine sw_cmpge (tgt := 39) dX2_latestTo_9 (by decide) (fun hc => ?_) (fun hc => ?_)
    · exact absurd hc (nI_ge hl (by omega))
    · refine sw_aload_n dX2_latestTo_12 rfl ?_
      refine sw_getf dX2_latestTo_13 fl_X2_15 h0 rfl ?_
      refine sw_iload_n dX2_latestTo_16 rfl ?_
      refine sw_iald dX2_latestTo_17 h2 (vp_in_nI (by omega) (by omega)) (nIat (by omega) (hR i e he).2.1) ?_
      refine sw_iload_n dX2_latestTo_18 rfl ?_
      refine sw_cmpne (tgt := 33) dX2_latestTo_19 (by decide) (fun hc => ?_) (fun hc => ?_)
      · refine sw_iinc (v := nI (i + 1)) dX2_latestTo_33 rfl (nI_1 i) (by decide) rfl ?_
        refine sw_goto (tgt := 4) dX2_latestTo_36 (by decide) ?_
        exact ih (i + 1) a hd' hl (by rw [latL, if_neg hc] at hP; exact hP)
      · refine sw_iload_n dX2_latestTo_22 rfl ?_
        refine sw_aload_n dX2_latestTo_23 rfl ?_
        refine sw_getf dX2_latestTo_24 fl_X2_18 h0 rfl ?_
        refine sw_iload_n dX2_latestTo_27 rfl ?_
        refine sw_iald dX2_latestTo_28 h3 (vp_in_nI (by omega) (by omega)) (nIat (by omega) (hR i e he).2.2) ?_
        refine sw_cs2 dX2_latestTo_29 cs_X2_53 (m_max) (fun r9 g9 hp => ?_)
        obtain ⟨rfl, rfl⟩ := hp
        refine sw_istore_n dX2_latestTo_32 (by decide) rfl ?_
        refine sw_iinc (v := nI (i + 1)) dX2_latestTo_33 rfl (nI_1 i) (by decide) rfl ?_
        refine sw_goto (tgt := 4) dX2_latestTo_36 (by decide) ?_
        exact ih (i + 1) _ hd' hl (by rw [latL, if_pos hc] at hP; exact hP)
theorem m_latestTo {G : SG} {d k : Nat} {h : AH} {es : List E3} {g : Int32} (hM : MemAt h k es) : SW G mX2_latestTo (d + 1) 0 0 0 [.ref k, .int g, .retAddr 0, .retAddr 0] [] h (fun r h' => r = some (.int (latL g es (-1))) ∧ h' = h) := by
  refine sw_iconst (v := (-1)) dX2_latestTo_0 (by decide) ?_
  refine sw_istore_n dX2_latestTo_1 (by decide) rfl ?_
  refine sw_iconst (v := 0) dX2_latestTo_2 (by decide) ?_
  refine sw_istore_n dX2_latestTo_3 (by decide) rfl ?_
  exact m_latestTo_l hM es 0 _ rfl (Nat.zero_le _) ⟨rfl, rfl⟩
/-- a memory's cells, whatever they hold -/
def MemS (h : AH) (k : Nat) : Prop := ∃ (v : Int32) (fl go ti : Nat → Int32), h[k]? = some (.inr (1, [.ref (k + 1), .ref (k + 2), .ref (k + 3), .int v])) ∧ h[k + 1]? = some (.inl (0, 16, .inl fl)) ∧ h[k + 2]? = some (.inl (0, 16, .inl go)) ∧ h[k + 3]? = some (.inl (0, 16, .inl ti))
theorem MemAt.S {h : AH} {k : Nat} {es : List E3} (hM : MemAt h k es) : MemS h k := by
  obtain ⟨fl, go, ti, ⟨h0, h1, h2, h3, -⟩, -⟩ := hM
  exact ⟨_, fl, go, ti, h0, h1, h2, h3⟩
theorem MemAt.kept {h h' : AH} {k : Nat} {es : List E3} (hM : MemAt h k es) (hk : ∀ j, k ≤ j → j < k + 4 → h'[j]? = h[j]?) : MemAt h' k es := by
  obtain ⟨fl, go, ti, ⟨h0, h1, h2, h3, hn⟩, hR⟩ := hM
  exact ⟨fl, go, ti, ⟨(hk _ (by omega) (by omega)).trans h0, (hk _ (by omega) (by omega)).trans h1, (hk _ (by omega) (by omega)).trans h2, (hk _ (by omega) (by omega)).trans h3, hn⟩, hR⟩
theorem MemS.kept {h h' : AH} {k : Nat} (hM : MemS h k) (hk : ∀ j, k ≤ j → j < k + 4 → h'[j]? = h[j]?) : MemS h' k := by
  obtain ⟨v, fl, go, ti, h0, h1, h2, h3⟩ := hM
  exact ⟨v, fl, go, ti, (hk _ (by omega) (by omega)).trans h0, (hk _ (by omega) (by omega)).trans h1, (hk _ (by omega) (by omega)).trans h2, (hk _ (by omega) (by omega)).trans h3⟩
theorem m_mcopy {G : SG} {d k q : Nat} {h : AH} {es : List E3} (hal : sg_al G = false) (hM : MemS h k) (hQ : MemAt h q es) (hkq : k + 4 ≤ q ∨ q + 4 ≤ k) : SW G mX2_copyFrom (d + 1) 0 0 0 [.ref k, .ref q] [] h (fun r h' => r = none ∧ MemAt h' k es ∧ Same4 h h' k) := by
  obtain ⟨v, fl, go, ti, h0, h1, h2, h3⟩ := hM
  obtain ⟨fq, gq, tq, ⟨q0, q1, q2, q3, hn⟩, hR⟩ := hQ
  refine sw_aload_n dX2_copyFrom_0 rfl ?_
  refine sw_getf dX2_copyFrom_1 fl_X2_9 q0 rfl ?_
  refine sw_iconst (v := 0) dX2_copyFrom_4 (by decide) ?_
  refine sw_aload_n dX2_copyFrom_5 rfl ?_
  refine sw_getf dX2_copyFrom_6 fl_X2_9 h0 rfl ?_
  refine sw_iconst (v := 0) dX2_copyFrom_9 (by decide) ?_
  refine sw_bipush (v := 16) dX2_copyFrom_10 (by decide) ?_
  refine sw_cpy dX2_copyFrom_12 w_252 hal q1 h1 (by decide) (by decide) (by decide) (fun g1 z1 e1 o1 => ?_)
  have h0 := (o1 _ (by omega)).trans h0
  have h2 := (o1 _ (by omega)).trans h2
  have h3 := (o1 _ (by omega)).trans h3
  have q0 := (o1 _ (by omega)).trans q0
  have q2 := (o1 _ (by omega)).trans q2
  have q3 := (o1 _ (by omega)).trans q3
  refine sw_aload_n dX2_copyFrom_15 rfl ?_
  refine sw_getf dX2_copyFrom_16 fl_X2_15 q0 rfl ?_
  refine sw_iconst (v := 0) dX2_copyFrom_19 (by decide) ?_
  refine sw_aload_n dX2_copyFrom_20 rfl ?_
  refine sw_getf dX2_copyFrom_21 fl_X2_15 h0 rfl ?_
  refine sw_iconst (v := 0) dX2_copyFrom_24 (by decide) ?_
  refine sw_bipush (v := 16) dX2_copyFrom_25 (by decide) ?_
  refine sw_cpy dX2_copyFrom_27 w_252 hal q2 h2 (by decide) (by decide) (by decide) (fun g2 z2 e2 o2 => ?_)
  have h0 := (o2 _ (by omega)).trans h0
  have e1 := (o2 _ (by omega)).trans e1
  have h3 := (o2 _ (by omega)).trans h3
  have q0 := (o2 _ (by omega)).trans q0
  have q3 := (o2 _ (by omega)).trans q3
  refine sw_aload_n dX2_copyFrom_30 rfl ?_
  refine sw_getf dX2_copyFrom_31 fl_X2_18 q0 rfl ?_
  refine sw_iconst (v := 0) dX2_copyFrom_34 (by decide) ?_
  refine sw_aload_n dX2_copyFrom_35 rfl ?_
  refine sw_getf dX2_copyFrom_36 fl_X2_18 h0 rfl ?_
  refine sw_iconst (v := 0) dX2_copyFrom_39 (by decide) ?_
  refine sw_bipush (v := 16) dX2_copyFrom_40 (by decide) ?_
  refine sw_cpy dX2_copyFrom_42 w_252 hal q3 h3 (by decide) (by decide) (by decide) (fun g3 z3 e3 o3 => ?_)
  have h0 := (o3 _ (by omega)).trans h0
  have e1 := (o3 _ (by omega)).trans e1
  have e2 := (o3 _ (by omega)).trans e2
  have q0 := (o3 _ (by omega)).trans q0
  refine sw_aload_n dX2_copyFrom_45 rfl ?_
  refine sw_aload_n dX2_copyFrom_46 rfl ?_
  refine sw_getf dX2_copyFrom_47 fl_X2_21 q0 rfl ?_
  refine sw_puti dX2_copyFrom_50 fl_X2_21 h0 (Nat.le_of_ble_eq_true rfl) (fun g4 z4 e4 o4 => ?_)
  have hz : (16 : Int32).toNatClampNeg = 16 := by decide
  rw [hz] at e1 e2 e3
  refine sw_return dX2_copyFrom_53 rfl ⟨rfl, ⟨_, _, _, ⟨e4, (o4 _ (by omega)).trans e1, (o4 _ (by omega)).trans e2, (o4 _ (by omega)).trans e3, hn⟩, fun i e he => ?_⟩, z4.trans (z3.trans (z2.trans z1)), fun j hj => (o4 j (by omega)).trans ((o3 j (by omega)).trans ((o2 j (by omega)).trans (o1 j (by omega))))⟩
  have hi := (List.getElem?_eq_some_iff.mp he).1
  simp only [if_pos (show i < 16 by omega)]
  exact hR i e he
