/-! the flows of a gateway in the class (Memory), as a row of (flow, goal, tick) -/
abbrev E3 : Type := Int32 × Int32 × Int32
def MemA (h : AH) (k : Nat) (n : Nat) (fl go ti : Nat → Int32) : Prop := h[k]? = some (.inr (1, [.ref (k + 1), .ref (k + 2), .ref (k + 3), .int (nI n)])) ∧ h[k + 1]? = some (.inl (0, 16, .inl fl)) ∧ h[k + 2]? = some (.inl (0, 16, .inl go)) ∧ h[k + 3]? = some (.inl (0, 16, .inl ti)) ∧ n ≤ 16
def MemR (es : List E3) (fl go ti : Nat → Int32) : Prop := ∀ (i : Nat) (e : E3), es[i]? = some e → fl i = e.1 ∧ go i = e.2.1 ∧ ti i = e.2.2
def MemAt (h : AH) (k : Nat) (es : List E3) : Prop := ∃ fl go ti : Nat → Int32, MemA h k es.length fl go ti ∧ MemR es fl go ti
/-- nothing but the four cells from k on has changed -/
def Same4 (h h' : AH) (k : Nat) : Prop := h'.length = h.length ∧ ∀ j, j < k ∨ k + 4 ≤ j → h'[j]? = h[j]?
theorem Same4.rf {h : AH} {k : Nat} : Same4 h h k := ⟨rfl, fun _ _ => rfl⟩
theorem Same4.tr {h h1 h2 : AH} {k : Nat} (a : Same4 h h1 k) (b : Same4 h1 h2 k) : Same4 h h2 k := ⟨b.1.trans a.1, fun j hj => (b.2 j hj).trans (a.2 j hj)⟩
theorem dropC {α : Type} {es r : List α} {e : α} {i : Nat} (h : es.drop i = e :: r) : es[i]? = some e ∧ es.drop (i + 1) = r ∧ i < es.length := by
  have hl : i < es.length := by
    rcases Nat.lt_or_ge i es.length with q | q
    · exact q
    · rw [List.drop_eq_nil_of_le q] at h; cases h
  rw [List.drop_eq_getElem_cons hl] at h
  injection h with h1 h2
  exact ⟨by rw [List.getElem?_eq_getElem hl, h1], h2, hl⟩
theorem dropN {α : Type} {es : List α} {i : Nat} (h : es.drop i = []) : es.length ≤ i := List.drop_eq_nil_iff.mp h
/-- where a flow stands -/
def fndL (id : Int32) : List E3 → Nat → Int32
  | [], _ => -1
  | e :: r, i => if e.1 = id then nI i else fndL id r (i + 1)
theorem m_find_l {G : SG} {d k : Nat} {h : AH} {es : List E3} {id : Int32} {P : Option Value → AH → Prop} (hM : MemAt h k es) : ∀ (r : List E3) (i : Nat), es.drop i = r → i ≤ es.length → P (some (.int (fndL id r i))) h → SW G mX2_find d 0 0 2 [.ref k, .int id, .int (nI i)] [] h P := by
  obtain ⟨fl, go, ti, ⟨h0, h1, h2, h3, hn⟩, hR⟩ := hM
  intro r
  induction r with
  | nil =>
    intro i hd hi hP
    have hl := dropN hd
    refine sw_iload_n dX2_find_2 rfl ?_
    refine sw_aload_n dX2_find_3 rfl ?_
    refine sw_getf dX2_find_4 fl_X2_21 h0 rfl ?_
    refine sw_cmpge (tgt := 28) dX2_find_7 (by decide) (fun hc => ?_) (fun hc => ?_)
    · refine sw_iconst (v := (-1)) dX2_find_28 (by decide) ?_
      exact sw_ireturn dX2_find_29 rfl rfl (hP)
    · exact absurd (nI_le hl (by omega)) hc
  | cons e r ih =>
    intro i hd hi hP
    obtain ⟨he, hd', hl⟩ := dropC hd
    refine sw_iload_n dX2_find_2 rfl ?_
    refine sw_aload_n dX2_find_3 rfl ?_
    refine sw_getf dX2_find_4 fl_X2_21 h0 rfl ?_
    refine sw_cmpge (tgt := 28) dX2_find_7 (by decide) (fun hc => ?_) (fun hc => ?_)
    · exact absurd hc (nI_ge hl (by omega))
    · refine sw_aload_n dX2_find_10 rfl ?_
      refine sw_getf dX2_find_11 fl_X2_9 h0 rfl ?_
      refine sw_iload_n dX2_find_14 rfl ?_
      refine sw_iald dX2_find_15 h1 (vp_in_nI (by omega) (by omega)) (nIat (by omega) (hR i e he).1) ?_
      refine sw_iload_n dX2_find_16 rfl ?_
      refine sw_cmpne (tgt := 22) dX2_find_17 (by decide) (fun hc => ?_) (fun hc => ?_)
      · refine sw_iinc (v := nI (i + 1)) dX2_find_22 rfl (nI_1 i) (by decide) rfl ?_
        refine sw_goto (tgt := 2) dX2_find_25 (by decide) ?_
        exact ih (i + 1) hd' hl (by rw [fndL, if_neg hc] at hP; exact hP)
      · refine sw_iload_n dX2_find_20 rfl ?_
        exact sw_ireturn dX2_find_21 rfl rfl (by rw [fndL, if_pos hc] at hP; exact hP)
theorem m_find {G : SG} {d k : Nat} {h : AH} {es : List E3} {id : Int32} (hM : MemAt h k es) : SW G mX2_find d 0 0 0 [.ref k, .int id, .retAddr 0] [] h (fun r h' => r = some (.int (fndL id es 0)) ∧ h' = h) := by
  refine sw_iconst (v := 0) dX2_find_0 (by decide) ?_
  refine sw_istore_n dX2_find_1 (by decide) rfl ?_
  exact m_find_l hM es 0 rfl (Nat.zero_le _) ⟨rfl, rfl⟩
/-- one place to another -/
theorem m_move {G : SG} {d k n a b : Nat} {h : AH} {fl go ti : Nat → Int32} (hA : MemA h k n fl go ti) (ha : a < 16) (hb : b < 16) : SW G mX2_move d 0 0 0 [.ref k, .int (nI a), .int (nI b)] [] h (fun r h' => r = none ∧ MemA h' k n (upd fl b (fl a)) (upd go b (go a)) (upd ti b (ti a)) ∧ Same4 h h' k) := by
  obtain ⟨h0, h1, h2, h3, hn⟩ := hA
  refine sw_aload_n dX2_move_0 rfl ?_
  refine sw_getf dX2_move_1 fl_X2_9 h0 rfl ?_
  refine sw_iload_n dX2_move_4 rfl ?_
  refine sw_aload_n dX2_move_5 rfl ?_
  refine sw_getf dX2_move_6 fl_X2_9 h0 rfl ?_
  refine sw_iload_n dX2_move_9 rfl ?_
  refine sw_iald dX2_move_10 h1 (vp_in_nI ha (by omega)) (nIat (by omega) rfl) ?_
  refine sw_iast dX2_move_11 h1 (vp_in_nI hb (by omega)) (fun g1 z1 e1 o1 => ?_)
  rw [nIupd (by omega)] at e1
  have h0 := (o1 k (by omega)).trans h0
  have h2 := (o1 (k + 2) (by omega)).trans h2
  have h3 := (o1 (k + 3) (by omega)).trans h3
  refine sw_aload_n dX2_move_12 rfl ?_
  refine sw_getf dX2_move_13 fl_X2_15 h0 rfl ?_
  refine sw_iload_n dX2_move_16 rfl ?_
  refine sw_aload_n dX2_move_17 rfl ?_
  refine sw_getf dX2_move_18 fl_X2_15 h0 rfl ?_
  refine sw_iload_n dX2_move_21 rfl ?_
  refine sw_iald dX2_move_22 h2 (vp_in_nI ha (by omega)) (nIat (by omega) rfl) ?_
  refine sw_iast dX2_move_23 h2 (vp_in_nI hb (by omega)) (fun g2 z2 e2 o2 => ?_)
  rw [nIupd (by omega)] at e2
  have h0 := (o2 k (by omega)).trans h0
  have e1 := (o2 (k + 1) (by omega)).trans e1
  have h3 := (o2 (k + 3) (by omega)).trans h3
  refine sw_aload_n dX2_move_24 rfl ?_
  refine sw_getf dX2_move_25 fl_X2_18 h0 rfl ?_
  refine sw_iload_n dX2_move_28 rfl ?_
  refine sw_aload_n dX2_move_29 rfl ?_
  refine sw_getf dX2_move_30 fl_X2_18 h0 rfl ?_
  refine sw_iload_n dX2_move_33 rfl ?_
  refine sw_iald dX2_move_34 h3 (vp_in_nI ha (by omega)) (nIat (by omega) rfl) ?_
  refine sw_iast dX2_move_35 h3 (vp_in_nI hb (by omega)) (fun g3 z3 e3 o3 => ?_)
  rw [nIupd (by omega)] at e3
  exact sw_return dX2_move_36 rfl (⟨rfl, ⟨(o3 k (by omega)).trans h0, (o3 (k + 1) (by omega)).trans e1, (o3 (k + 2) (by omega)).trans e2, e3, hn⟩, z3.trans (z2.trans z1), fun j hj => (o3 j (by omega)).trans ((o2 j (by omega)).trans (o1 j (by omega)))⟩)
def shf (f : Nat → Int32) (a i : Nat) : Nat → Int32 := fun j => if a ≤ j ∧ j + 1 < i then f (j + 1) else f j
theorem shf_step (f : Nat → Int32) {a i : Nat} (h : a < i) : upd (shf f a i) (i - 1) (shf f a i i) = shf f a (i + 1) := by
  funext j
  unfold upd shf
  by_cases hj : j = i - 1
  · rw [if_pos hj, if_neg (by omega), if_pos (by omega), hj, show i - 1 + 1 = i by omega]
  · rw [if_neg hj]
    by_cases h2 : a ≤ j ∧ j + 1 < i
    · rw [if_pos h2, if_pos (by omega)]
    · rw [if_neg h2, if_neg (by omega)]
theorem shf_0 (f : Nat → Int32) (a : Nat) : shf f a (a + 1) = f := by
  funext j; unfold shf; rw [if_neg (by omega)]
theorem m_drop_l {G : SG} {d k n a : Nat} {fl go ti : Nat → Int32} {P : Option Value → AH → Prop} {hh : AH} : ∀ (c i : Nat) (h : AH), i + c = n → a < i → a < n → MemA h k n (shf fl a i) (shf go a i) (shf ti a i) → Same4 hh h k → (∀ h', MemA h' k (n - 1) (shf fl a n) (shf go a n) (shf ti a n) → Same4 hh h' k → P none h') → SW G mX2_drop (d + 1) 0 0 4 [.ref k, .int (nI a), .int (nI i)] [] h P := by
  intro c
  induction c with
  | zero =>
    intro i h hi hai han hA hS hP
    have hn := hA.2.2.2.2
    refine sw_iload_n dX2_drop_4 rfl ?_
    refine sw_aload_n dX2_drop_5 rfl ?_
    refine sw_getf dX2_drop_6 fl_X2_21 hA.1 rfl ?_
    refine sw_cmpge (tgt := 26) dX2_drop_9 (by decide) (fun hc => ?_) (fun hc => ?_)
    · refine sw_aload_n dX2_drop_26 rfl ?_
      refine sw_dup dX2_drop_27 rfl ?_
      refine sw_getf dX2_drop_28 fl_X2_21 hA.1 rfl ?_
      refine sw_iconst (v := 1) dX2_drop_31 (by decide) ?_
      refine sw_isub dX2_drop_32 ?_
      refine sw_puti dX2_drop_33 fl_X2_21 hA.1 (Nat.le_of_ble_eq_true rfl) (fun g1 z1 e1 o1 => ?_)
      have hin : i = n := by omega
      subst hin
      rw [nI_p (by omega)] at e1
      exact sw_return dX2_drop_36 rfl (hP _ ⟨e1, (o1 _ (by omega)).trans hA.2.1, (o1 _ (by omega)).trans hA.2.2.1, (o1 _ (by omega)).trans hA.2.2.2.1, by omega⟩ (hS.tr ⟨z1, fun j hj => o1 j (by omega)⟩))
    · exact absurd (nI_le (by omega) (by omega)) hc
  | succ c ih =>
    intro i h hi hai han hA hS hP
    have hn := hA.2.2.2.2
    refine sw_iload_n dX2_drop_4 rfl ?_
    refine sw_aload_n dX2_drop_5 rfl ?_
    refine sw_getf dX2_drop_6 fl_X2_21 hA.1 rfl ?_
    refine sw_cmpge (tgt := 26) dX2_drop_9 (by decide) (fun hc => ?_) (fun hc => ?_)
    · exact absurd hc (nI_ge (by omega) (by omega))
    · refine sw_aload_n dX2_drop_12 rfl ?_
      refine sw_iload_n dX2_drop_13 rfl ?_
      refine sw_iload_n dX2_drop_14 rfl ?_
      refine sw_iconst (v := 1) dX2_drop_15 (by decide) ?_
      refine sw_isub dX2_drop_16 ?_
      rw [nI_p (by omega)]
      refine sw_cv2 dX2_drop_17 cv_X2_42 (rc_of hA.1 rfl) (m_move (a := i) (b := i - 1) hA (by omega) (by omega)) (fun r g hp => ?_)
      obtain ⟨rfl, hA1, hS1⟩ := hp
      rw [shf_step _ hai, shf_step _ hai, shf_step _ hai] at hA1
      refine sw_iinc (v := nI (i + 1)) dX2_drop_20 rfl (nI_1 i) (by decide) rfl ?_
      refine sw_goto (tgt := 4) dX2_drop_23 (by decide) ?_
      exact ih (i + 1) g (by omega) (by omega) han hA1 (hS.tr hS1) hP
theorem m_drop {G : SG} {d k a : Nat} {h : AH} {es : List E3} (hM : MemAt h k es) (ha : a < es.length) : SW G mX2_drop (d + 1) 0 0 0 [.ref k, .int (nI a), .retAddr 0] [] h (fun r h' => r = none ∧ MemAt h' k (es.eraseIdx a) ∧ Same4 h h' k) := by
  obtain ⟨fl, go, ti, hA, hR⟩ := hM
  refine sw_iload_n dX2_drop_0 rfl ?_
  refine sw_iconst (v := 1) dX2_drop_1 (by decide) ?_
  refine sw_iadd dX2_drop_2 ?_
  rw [nI_1 a]
  refine sw_istore_n dX2_drop_3 (by decide) rfl ?_
  refine m_drop_l (n := es.length) (fl := fl) (go := go) (ti := ti) (hh := h) (es.length - (a + 1)) (a + 1) h (by omega) (by omega) ha (by rw [shf_0, shf_0, shf_0]; exact hA) Same4.rf (fun h' hA' hS' => ⟨rfl, ⟨_, _, _, by rw [List.length_eraseIdx_of_lt ha]; exact hA', fun i e he => ?_⟩, hS'⟩)
  rw [List.getElem?_eraseIdx] at he
  have hlt : i < es.length - 1 := by
    split at he
    · have := (List.getElem?_eq_some_iff.mp he).1; omega
    · have := (List.getElem?_eq_some_iff.mp he).1; omega
  unfold shf
  by_cases h2 : i < a
  · rw [if_pos h2] at he
    rw [if_neg (by omega), if_neg (by omega), if_neg (by omega)]
    exact hR i e he
  · rw [if_neg h2] at he
    rw [if_pos (by omega), if_pos (by omega), if_pos (by omega)]
    exact hR (i + 1) e he
/-- the first with the least tick -/
def eldI (t : Nat → Int32) : Nat → Nat → Nat → Nat
  | 0, _, b => b
  | c + 1, i, b => eldI t c (i + 1) (if t i < t b then i else b)
def tkE (es : List E3) (i : Nat) : Int32 := (es.getD i (0, 0, 0)).2.2
def eld (es : List E3) : Nat := eldI (tkE es) (es.length - 1) 1 0
theorem eldI_lt (t : Nat → Int32) : ∀ (c i b : Nat), b < i → eldI t c i b < i + c := by
  intro c
  induction c with
  | zero => intro i b h; exact h
  | succ c ih =>
    intro i b h
    unfold eldI
    have := ih (i + 1) (if t i < t b then i else b) (by split <;> omega)
    omega
theorem eld_lt {es : List E3} (h : 0 < es.length) : eld es < es.length := by
  have := eldI_lt (tkE es) (es.length - 1) 1 0 (by omega)
  unfold eld; omega
theorem tkE_at {es : List E3} {i : Nat} {e : E3} (h : es[i]? = some e) : tkE es i = e.2.2 := by
  unfold tkE; rw [List.getD_eq_getElem?_getD, h]; rfl
theorem getE {es : List E3} {i : Nat} (h : i < es.length) : ∃ e, es[i]? = some e := ⟨_, List.getElem?_eq_getElem h⟩
theorem m_eldest_l {G : SG} {d k : Nat} {h : AH} {es : List E3} {P : Option Value → AH → Prop} (hM : MemAt h k es) : ∀ (c i b : Nat), (i + c = es.length ∨ (c = 0 ∧ es.length ≤ i)) → i ≤ 17 → b < i → (0 < c → b < es.length) → P (some (.int (nI (eldI (tkE es) c i b)))) h → SW G mX2_eldest d 0 0 4 [.ref k, .int (nI b), .int (nI i)] [] h P := by
  obtain ⟨fl, go, ti, ⟨h0, h1, h2, h3, hn⟩, hR⟩ := hM
  intro c
  induction c with
  | zero =>
    intro i b hi hi17 hb hbl hP
    refine sw_iload_n dX2_eldest_4 rfl ?_
    refine sw_aload_n dX2_eldest_5 rfl ?_
    refine sw_getf dX2_eldest_6 fl_X2_21 h0 rfl ?_
    refine sw_cmpge (tgt := 35) dX2_eldest_9 (by decide) (fun hc => ?_) (fun hc => ?_)
    · refine sw_iload_n dX2_eldest_35 rfl ?_
      exact sw_ireturn dX2_eldest_36 rfl rfl (hP)
    · exact absurd (nI_le (by omega) (by omega)) hc
  | succ c ih =>
    intro i b hi hi17 hb hbl hP
    have hil : i < es.length := by omega
    have hbl := hbl (by omega)
    obtain ⟨e, he⟩ := getE hil
    obtain ⟨e2, he2⟩ := getE hbl
    refine sw_iload_n dX2_eldest_4 rfl ?_
    refine sw_aload_n dX2_eldest_5 rfl ?_
    refine sw_getf dX2_eldest_6 fl_X2_21 h0 rfl ?_
    refine sw_cmpge (tgt := 35) dX2_eldest_9 (by decide) (fun hc => ?_) (fun hc => ?_)
    · exact absurd hc (nI_ge (by omega) (by omega))
    · refine sw_aload_n dX2_eldest_12 rfl ?_
      refine sw_getf dX2_eldest_13 fl_X2_18 h0 rfl ?_
      refine sw_iload_n dX2_eldest_16 rfl ?_
      refine sw_iald dX2_eldest_17 h3 (vp_in_nI (by omega) (by omega)) (nIat (by omega) ((hR i e he).2.2.trans (tkE_at he).symm)) ?_
      refine sw_aload_n dX2_eldest_18 rfl ?_
      refine sw_getf dX2_eldest_19 fl_X2_18 h0 rfl ?_
      refine sw_iload_n dX2_eldest_22 rfl ?_
      refine sw_iald dX2_eldest_23 h3 (vp_in_nI (by omega) (by omega)) (nIat (by omega) ((hR b e2 he2).2.2.trans (tkE_at he2).symm)) ?_
      refine sw_cmpge (tgt := 29) dX2_eldest_24 (by decide) (fun hc => ?_) (fun hc => ?_)
      · refine sw_iinc (v := nI (i + 1)) dX2_eldest_29 rfl (nI_1 i) (by decide) rfl ?_
        refine sw_goto (tgt := 4) dX2_eldest_32 (by decide) ?_
        exact ih (i + 1) b (by omega) (by omega) (by omega) (fun _ => hbl) (by rw [eldI, if_neg (Int32.not_lt.mpr hc)] at hP; exact hP)
      · refine sw_iload_n dX2_eldest_27 rfl ?_
        refine sw_istore_n dX2_eldest_28 (by decide) rfl ?_
        refine sw_iinc (v := nI (i + 1)) dX2_eldest_29 rfl (nI_1 i) (by decide) rfl ?_
        refine sw_goto (tgt := 4) dX2_eldest_32 (by decide) ?_
        exact ih (i + 1) i (by omega) (by omega) (by omega) (fun _ => hil) (by rw [eldI, if_pos (Int32.not_le.mp hc)] at hP; exact hP)
theorem m_eldest {G : SG} {d k : Nat} {h : AH} {es : List E3} (hM : MemAt h k es) : SW G mX2_eldest d 0 0 0 [.ref k, .retAddr 0, .retAddr 0] [] h (fun r h' => r = some (.int (nI (eld es))) ∧ h' = h) := by
  refine sw_iconst (v := 0) dX2_eldest_0 (by decide) ?_
  refine sw_istore_n dX2_eldest_1 (by decide) rfl ?_
  refine sw_iconst (v := 1) dX2_eldest_2 (by decide) ?_
  refine sw_istore_n dX2_eldest_3 (by decide) rfl ?_
  exact m_eldest_l hM (es.length - 1) 1 0 (by omega) (by omega) (by omega) (by omega) ⟨rfl, rfl⟩
/-- as many as there is room for -/
def shrL (m : Int32) : Nat → List E3 → List E3
  | 0, es => es
  | c + 1, es => if nI es.length ≤ m then es else shrL m c (es.eraseIdx (eld es))
theorem m_shrink_l {G : SG} {d k : Nat} {m : Int32} {P : Option Value → AH → Prop} {hh : AH} (hm : ¬ m < 0) : ∀ (c i : Nat) (h : AH) (es : List E3), i + c = 16 → MemAt h k es → Same4 hh h k → (∀ h', MemAt h' k (shrL m c es) → Same4 hh h' k → P none h') → SW G mX2_shrinkTo (d + 2) 0 0 2 [.ref k, .int m, .int (nI i)] [] h P := by
  intro c
  induction c with
  | zero =>
    intro i h es hi hM hS hP
    refine sw_iload_n dX2_shrinkTo_2 rfl ?_
    refine sw_bipush (v := 16) dX2_shrinkTo_3 (by decide) ?_
    refine sw_cmpge (tgt := 30) dX2_shrinkTo_5 (by decide) (fun hc => ?_) (fun hc => ?_)
    · exact sw_return dX2_shrinkTo_30 rfl (hP h hM hS)
    · exact absurd (nI_le (a := 16) (by omega) (by omega)) hc
  | succ c ih =>
    intro i h es hi hM hS hP
    obtain ⟨fl, go, ti, hA, hR⟩ := id hM
    have hn := hA.2.2.2.2
    refine sw_iload_n dX2_shrinkTo_2 rfl ?_
    refine sw_bipush (v := 16) dX2_shrinkTo_3 (by decide) ?_
    refine sw_cmpge (tgt := 30) dX2_shrinkTo_5 (by decide) (fun hc => ?_) (fun hc => ?_)
    · exact absurd hc (nI_ge (b := 16) (by omega) (by omega))
    · refine sw_aload_n dX2_shrinkTo_8 rfl ?_
      refine sw_getf dX2_shrinkTo_9 fl_X2_21 hA.1 rfl ?_
      refine sw_iload_n dX2_shrinkTo_12 rfl ?_
      refine sw_cmple (tgt := 30) dX2_shrinkTo_13 (by decide) (fun hb => ?_) (fun hb => ?_)
      · exact sw_return dX2_shrinkTo_30 rfl (hP h (by rw [shrL, if_pos hb]; exact hM) hS)
      · have hpos : 0 < es.length := by
          rcases Nat.eq_zero_or_pos es.length with z | z
          · rw [z, nI_0] at hb; exact absurd (Int32.not_lt.mp hm) hb
          · exact z
        refine sw_aload_n dX2_shrinkTo_16 rfl ?_
        refine sw_aload_n dX2_shrinkTo_17 rfl ?_
        refine sw_cv0 dX2_shrinkTo_18 cv_X2_46 (rc_of hA.1 rfl) (m_eldest hM) (fun r g hp => ?_)
        obtain ⟨rfl, rfl⟩ := hp
        refine sw_cv1 dX2_shrinkTo_21 cv_X2_50 (rc_of hA.1 rfl) (m_drop hM (eld_lt hpos)) (fun r g hp => ?_)
        obtain ⟨rfl, hM1, hS1⟩ := hp
        refine sw_iinc (v := nI (i + 1)) dX2_shrinkTo_24 rfl (nI_1 i) (by decide) rfl ?_
        refine sw_goto (tgt := 2) dX2_shrinkTo_27 (by decide) ?_
        exact ih (i + 1) g _ (by omega) hM1 (hS.tr hS1) (fun h' a b => hP h' (by rw [shrL, if_neg hb]; exact a) b)
theorem m_shrinkTo {G : SG} {d k : Nat} {h : AH} {es : List E3} {m : Int32} (hM : MemAt h k es) (hm : ¬ m < 0) : SW G mX2_shrinkTo (d + 2) 0 0 0 [.ref k, .int m, .retAddr 0] [] h (fun r h' => r = none ∧ MemAt h' k (shrL m 16 es) ∧ Same4 h h' k) := by
  refine sw_iconst (v := 0) dX2_shrinkTo_0 (by decide) ?_
  refine sw_istore_n dX2_shrinkTo_1 (by decide) rfl ?_
  exact m_shrink_l hm 16 0 h es rfl hM Same4.rf (fun h' a b => ⟨rfl, a, b⟩)
/-- where a new flow's place is: behind those that are not greater -/
def insP (f : Nat → Int32) (id : Int32) : Nat → Nat
  | 0 => 0
  | i + 1 => if f i ≤ id then i + 1 else insP f id i
def shu (f : Nat → Int32) (i n : Nat) : Nat → Int32 := fun j => if i < j ∧ j ≤ n then f (j - 1) else f j
theorem shu_step (f : Nat → Int32) {i n : Nat} (h : i < n) : upd (shu f (i + 1) n) (i + 1) (shu f (i + 1) n i) = shu f i n := by
  funext j
  unfold upd shu
  by_cases hj : j = i + 1
  · rw [if_pos hj, if_neg (by omega), if_pos (by omega), hj, Nat.add_sub_cancel]
  · rw [if_neg hj]
    by_cases h2 : i + 1 < j ∧ j ≤ n
    · rw [if_pos h2, if_pos (by omega)]
    · rw [if_neg h2, if_neg (by omega)]
theorem shu_0 (f : Nat → Int32) (n : Nat) : shu f n n = f := by
  funext j; unfold shu; rw [if_neg (by omega)]
theorem insP_le (f : Nat → Int32) (id : Int32) : ∀ n, insP f id n ≤ n := by
  intro n
  induction n with
  | zero => exact Nat.le_refl _
  | succ n ih => unfold insP; split <;> omega
theorem m_open_l {G : SG} {d k n : Nat} {fl go ti : Nat → Int32} {id : Int32} {P : Option Value → AH → Prop} {hh : AH} (hn16 : n < 16) : ∀ (i : Nat) (h : AH), i ≤ n → MemA h k n (shu fl i n) (shu go i n) (shu ti i n) → Same4 hh h k → (∀ h', MemA h' k (n + 1) (upd (shu fl (insP fl id i) n) (insP fl id i) id) (shu go (insP fl id i) n) (shu ti (insP fl id i) n) → Same4 hh h' k → P (some (.int (nI (insP fl id i)))) h') → SW G mX2_openAt (d + 1) 0 0 10 [.ref k, .int id, .int (nI i), .int (nI i)] [] h P := by
  have fin : ∀ (i : Nat) (h : AH), i ≤ n → MemA h k n (shu fl i n) (shu go i n) (shu ti i n) → Same4 hh h k → (∀ h', MemA h' k (n + 1) (upd (shu fl i n) i id) (shu go i n) (shu ti i n) → Same4 hh h' k → P (some (.int (nI i))) h') → SW G mX2_openAt (d + 1) 0 0 44 [.ref k, .int id, .int (nI i), .int (nI i)] [] h P := by
    intro i h hi hA hS hP
    obtain ⟨h0, h1, h2, h3, -⟩ := hA
    refine sw_aload_n dX2_openAt_44 rfl ?_
    refine sw_getf dX2_openAt_45 fl_X2_9 h0 rfl ?_
    refine sw_iload_n dX2_openAt_48 rfl ?_
    refine sw_iload_n dX2_openAt_49 rfl ?_
    refine sw_iast dX2_openAt_50 h1 (vp_in_nI (by omega) (by omega)) (fun g1 z1 e1 o1 => ?_)
    rw [nIupd (by omega)] at e1
    have h0 := (o1 k (by omega)).trans h0
    refine sw_aload_n dX2_openAt_51 rfl ?_
    refine sw_dup dX2_openAt_52 rfl ?_
    refine sw_getf dX2_openAt_53 fl_X2_21 h0 rfl ?_
    refine sw_iconst (v := 1) dX2_openAt_56 (by decide) ?_
    refine sw_iadd dX2_openAt_57 ?_
    refine sw_puti dX2_openAt_58 fl_X2_21 h0 (Nat.le_of_ble_eq_true rfl) (fun g2 z2 e2 o2 => ?_)
    rw [nI_1] at e2
    refine sw_iload_n dX2_openAt_61 rfl ?_
    exact sw_ireturn dX2_openAt_62 rfl rfl (hP _ ⟨e2, (o2 _ (by omega)).trans e1, (o2 _ (by omega)).trans ((o1 _ (by omega)).trans h2), (o2 _ (by omega)).trans ((o1 _ (by omega)).trans h3), by omega⟩ (hS.tr ⟨z2.trans z1, fun j hj => (o2 j (by omega)).trans (o1 j (by omega))⟩))
  intro i
  induction i with
  | zero =>
    intro h hi hA hS hP
    refine sw_iload_n dX2_openAt_10 rfl ?_
    refine sw_ifle (tgt := 44) dX2_openAt_11 (by decide) (fun hc => ?_) (fun hc => ?_)
    · exact fin 0 h hi hA hS hP
    · exact absurd (by rw [nI_0]; exact Int32.le_refl _) hc
  | succ i ih =>
    intro h hi hA hS hP
    have hA0 := hA
    obtain ⟨h0, h1, h2, h3, -⟩ := hA0
    refine sw_iload_n dX2_openAt_10 rfl ?_
    refine sw_ifle (tgt := 44) dX2_openAt_11 (by decide) (fun hc => ?_) (fun hc => ?_)
    · exact absurd hc (nI_nle (by omega) (by omega))
    · refine sw_aload_n dX2_openAt_14 rfl ?_
      refine sw_getf dX2_openAt_15 fl_X2_9 h0 rfl ?_
      refine sw_iload_n dX2_openAt_18 rfl ?_
      refine sw_iconst (v := 1) dX2_openAt_19 (by decide) ?_
      refine sw_isub dX2_openAt_20 ?_
      rw [nI_p (by omega), Nat.add_sub_cancel]
      have hv : shu fl (i + 1) n i = fl i := by unfold shu; rw [if_neg (by omega)]
      refine sw_iald dX2_openAt_21 h1 (vp_in_nI (by omega) (by omega)) (nIat (by omega) hv) ?_
      refine sw_iload_n dX2_openAt_22 rfl ?_
      refine sw_cmple (tgt := 44) dX2_openAt_23 (by decide) (fun hb => ?_) (fun hb => ?_)
      · have hp : insP fl id (i + 1) = i + 1 := by rw [insP, if_pos hb]
        rw [hp] at hP
        exact fin (i + 1) h hi hA hS hP
      · have hp : insP fl id (i + 1) = insP fl id i := by rw [insP, if_neg hb]
        rw [hp] at hP
        refine sw_aload_n dX2_openAt_26 rfl ?_
        refine sw_iload_n dX2_openAt_27 rfl ?_
        refine sw_iconst (v := 1) dX2_openAt_28 (by decide) ?_
        refine sw_isub dX2_openAt_29 ?_
        refine sw_iload_n dX2_openAt_30 rfl ?_
        rw [nI_p (by omega), Nat.add_sub_cancel]
        refine sw_cv2 dX2_openAt_31 cv_X2_42 (rc_of h0 rfl) (m_move (a := i) (b := i + 1) hA (by omega) (by omega)) (fun r g hq => ?_)
        obtain ⟨rfl, hA1, hS1⟩ := hq
        rw [shu_step _ (by omega), shu_step _ (by omega), shu_step _ (by omega)] at hA1
        refine sw_iload_n dX2_openAt_34 rfl ?_
        refine sw_iconst (v := 1) dX2_openAt_35 (by decide) ?_
        refine sw_isub dX2_openAt_36 ?_
        rw [nI_p (by omega), Nat.add_sub_cancel]
        refine sw_istore_n dX2_openAt_37 (by decide) rfl ?_
        refine sw_iinc (v := nI i) dX2_openAt_38 rfl (nI_dec i) (by decide) rfl ?_
        refine sw_goto (tgt := 10) dX2_openAt_41 (by decide) ?_
        exact ih g (by omega) hA1 (hS.tr hS1) hP
theorem m_openAt {G : SG} {d k n : Nat} {h : AH} {fl go ti : Nat → Int32} {id : Int32} (hA : MemA h k n fl go ti) (hn : n < 16) : SW G mX2_openAt (d + 1) 0 0 0 [.ref k, .int id, .retAddr 0, .retAddr 0] [] h (fun r h' => r = some (.int (nI (insP fl id n))) ∧ MemA h' k (n + 1) (upd (shu fl (insP fl id n) n) (insP fl id n) id) (shu go (insP fl id n) n) (shu ti (insP fl id n) n) ∧ Same4 h h' k) := by
  refine sw_aload_n dX2_openAt_0 rfl ?_
  refine sw_getf dX2_openAt_1 fl_X2_21 hA.1 rfl ?_
  refine sw_istore_n dX2_openAt_4 (by decide) rfl ?_
  refine sw_aload_n dX2_openAt_5 rfl ?_
  refine sw_getf dX2_openAt_6 fl_X2_21 hA.1 rfl ?_
  refine sw_istore_n dX2_openAt_9 (by decide) rfl ?_
  exact m_open_l hn n h (Nat.le_refl _) (by rw [shu_0, shu_0, shu_0]; exact hA) Same4.rf (fun h' a b => ⟨rfl, a, b⟩)
def flE (es : List E3) (i : Nat) : Int32 := (es.getD i (0, 0, 0)).1
theorem flE_at {es : List E3} {i : Nat} {e : E3} (h : es[i]? = some e) : flE es i = e.1 := by
  unfold flE; rw [List.getD_eq_getElem?_getD, h]; rfl
theorem insP_congr {f g : Nat → Int32} {id : Int32} : ∀ n, (∀ i, i < n → f i = g i) → insP f id n = insP g id n := by
  intro n
  induction n with
  | zero => intro _; rfl
  | succ n ih =>
    intro h
    unfold insP
    rw [h n (by omega), ih (fun i hi => h i (by omega))]
def insL (es : List E3) (e : E3) : List E3 := es.insertIdx (insP (flE es) e.1 es.length) e
/-- where a flow stands, as a place -/
def fix (id : Int32) (es : List E3) : Option Nat := es.findIdx? (fun e => decide (e.1 = id))
theorem fndL_fix (id : Int32) : ∀ (es : List E3) (i : Nat), fndL id es i = match fix id es with
  | none => -1
  | some j => nI (i + j) := by
  intro es
  induction es with
  | nil => intro i; rfl
  | cons e r ih =>
    intro i
    unfold fndL fix
    rw [List.findIdx?_cons]
    by_cases h : e.1 = id
    · simp [h]
    · rw [if_neg h, ih (i + 1)]
      unfold fix
      simp only [h, decide_false]
      cases r.findIdx? (fun e => decide (e.1 = id)) with
      | none => rfl
      | some j => simp; rw [show i + 1 + j = i + (j + 1) by omega]
theorem fix_some {id : Int32} {es : List E3} {j : Nat} (h : fix id es = some j) : ∃ e, es[j]? = some e ∧ e.1 = id := by
  unfold fix at h
  rw [List.findIdx?_eq_some_iff_getElem] at h
  obtain ⟨hj, h1, -⟩ := h
  exact ⟨es[j], List.getElem?_eq_getElem hj, by simpa using h1⟩
theorem nI_ne_m1 {j : Nat} (h : j < 2 ^ 31) : ¬ nI j = -1 := by
  intro q
  have := nI_pos h
  rw [q] at this
  exact this (by decide)
/-- a packet is remembered -/
def putL (es : List E3) (id goal now room : Int32) : List E3 := match fix id es with
  | some j => es.set j (id, goal, now)
  | none => insL (shrL (room - 1) 16 es) (id, goal, now)
theorem m_put_end {G : SG} {d k n p : Nat} {h hh : AH} {fl go ti : Nat → Int32} {id goal now room : Int32} {P : Option Value → AH → Prop} (hA : MemA h k n fl go ti) (hp : p < 16) (hS : Same4 hh h k) (hP : ∀ h', MemA h' k n fl (upd go p goal) (upd ti p now) → Same4 hh h' k → P none h') : SW G mX2_put d 0 0 28 [.ref k, .int id, .int goal, .int now, .int room, .int (nI p)] [] h P := by
  obtain ⟨h0, h1, h2, h3, hn⟩ := hA
  refine sw_aload_n dX2_put_28 rfl ?_
  refine sw_getf dX2_put_29 fl_X2_15 h0 rfl ?_
  refine sw_iload dX2_put_32 rfl ?_
  refine sw_iload_n dX2_put_34 rfl ?_
  refine sw_iast dX2_put_35 h2 (vp_in_nI (by omega) (by omega)) (fun g1 z1 e1 o1 => ?_)
  rw [nIupd (by omega)] at e1
  have h0 := (o1 k (by omega)).trans h0
  have h3 := (o1 (k + 3) (by omega)).trans h3
  refine sw_aload_n dX2_put_36 rfl ?_
  refine sw_getf dX2_put_37 fl_X2_18 h0 rfl ?_
  refine sw_iload dX2_put_40 rfl ?_
  refine sw_iload_n dX2_put_42 rfl ?_
  refine sw_iast dX2_put_43 h3 (vp_in_nI (by omega) (by omega)) (fun g2 z2 e2 o2 => ?_)
  rw [nIupd (by omega)] at e2
  exact sw_return dX2_put_44 rfl (hP _ ⟨(o2 _ (by omega)).trans h0, (o2 _ (by omega)).trans ((o1 _ (by omega)).trans h1), (o2 _ (by omega)).trans e1, e2, hn⟩ (hS.tr ⟨z2.trans z1, fun j hj => (o2 j (by omega)).trans (o1 j (by omega))⟩))
theorem m_put {G : SG} {d k : Nat} {h : AH} {es : List E3} {id goal now room : Int32} (hM : MemAt h k es) (hr : ¬ room - 1 < 0) (hs : (shrL (room - 1) 16 es).length < 16) : SW G mX2_put (d + 3) 0 0 0 [.ref k, .int id, .int goal, .int now, .int room, .retAddr 0] [] h (fun r h' => r = none ∧ MemAt h' k (putL es id goal now room) ∧ Same4 h h' k) := by
  have hM0 := hM
  obtain ⟨fl, go, ti, hA, hR⟩ := hM0
  have hn := hA.2.2.2.2
  refine sw_aload_n dX2_put_0 rfl ?_
  refine sw_iload_n dX2_put_1 rfl ?_
  refine sw_cv1 dX2_put_2 cv_X2_31 (rc_of hA.1 rfl) (m_find hM) (fun r g hp => ?_)
  obtain ⟨rfl, rfl⟩ := hp
  rw [fndL_fix]
  cases hf : fix id es with
  | some j =>
    obtain ⟨e, he, hid⟩ := fix_some hf
    have hj : j < es.length := (List.getElem?_eq_some_iff.mp he).1
    simp only [Nat.zero_add]
    refine sw_istore dX2_put_5 (by decide) rfl ?_
    refine sw_iload dX2_put_7 rfl ?_
    refine sw_iconst (v := (-1)) dX2_put_9 (by decide) ?_
    refine sw_cmpne (tgt := 28) dX2_put_10 (by decide) (fun hc => ?_) (fun hc => ?_)
    · refine m_put_end hA (by omega) Same4.rf (fun h' hA' hS' => ⟨rfl, ?_, hS'⟩)
      have hpl : putL es id goal now room = es.set j (id, goal, now) := by unfold putL; rw [hf]
      rw [hpl]
      refine ⟨_, _, _, by rw [List.length_set]; exact hA', fun i e' he' => ?_⟩
      by_cases hij : j = i
      · subst hij
        rw [List.getElem?_set_self hj] at he'
        cases he'
        exact ⟨by rw [(hR j e he).1, hid], by simp [upd], by simp [upd]⟩
      · rw [List.getElem?_set_ne hij] at he'
        have := hR i e' he'
        exact ⟨this.1, by simp [upd, Ne.symm hij, this.2.1], by simp [upd, Ne.symm hij, this.2.2]⟩
    · exact absurd hc (nI_ne_m1 (by omega))
  | none =>
    simp only []
    refine sw_istore dX2_put_5 (by decide) rfl ?_
    refine sw_iload dX2_put_7 rfl ?_
    refine sw_iconst (v := (-1)) dX2_put_9 (by decide) ?_
    refine sw_cmpne (tgt := 28) dX2_put_10 (by decide) (fun hc => ?_) (fun hc => ?_)
    · exact absurd rfl hc
    · refine sw_aload_n dX2_put_13 rfl ?_
      refine sw_iload dX2_put_14 rfl ?_
      refine sw_iconst (v := 1) dX2_put_16 (by decide) ?_
      refine sw_isub dX2_put_17 ?_
      refine sw_cv1 dX2_put_18 cv_X2_35 (rc_of hA.1 rfl) (m_shrinkTo hM hr) (fun r g hp => ?_)
      obtain ⟨rfl, hM1, hS1⟩ := hp
      have hpl : putL es id goal now room = insL (shrL (room - 1) 16 es) (id, goal, now) := by unfold putL; rw [hf]
      rw [hpl]
      generalize shrL (room - 1) 16 es = e1 at hM1 hs
      obtain ⟨fl1, go1, ti1, hA1, hR1⟩ := hM1
      refine sw_aload_n dX2_put_21 rfl ?_
      refine sw_iload_n dX2_put_22 rfl ?_
      refine sw_cv1 dX2_put_23 cv_X2_39 (rc_of hA1.1 rfl) (m_openAt hA1 hs) (fun r g2 hp => ?_)
      obtain ⟨rfl, hA2, hS2⟩ := hp
      have hle := insP_le fl1 id e1.length
      have hpe : insP (flE e1) id e1.length = insP fl1 id e1.length := insP_congr _ (fun i hi => by
        obtain ⟨e, he⟩ := getE hi
        rw [flE_at he, (hR1 i e he).1])
      refine sw_istore dX2_put_26 (by decide) rfl ?_
      refine m_put_end hA2 (by omega) (hS1.tr hS2) (fun h' hA' hS' => ⟨rfl, ?_, hS'⟩)
      unfold insL
      rw [hpe]
      refine ⟨_, _, _, by rw [List.length_insertIdx_of_le_length hle]; exact hA', fun i e' he' => ?_⟩
      generalize insP fl1 id e1.length = q at *
      rw [List.getElem?_insertIdx] at he'
      by_cases h1 : i < q
      · rw [if_pos h1] at he'
        have := hR1 i e' he'
        have hne : ¬ i = q := by omega
        have hns : ¬ (q < i ∧ i ≤ e1.length) := by omega
        simp only [upd, shu, if_neg hne, if_neg hns]
        exact this
      · rw [if_neg h1] at he'
        by_cases h2 : i = q
        · rw [if_pos h2, if_pos (by omega)] at he'
          cases he'
          simp [upd, h2]
        · rw [if_neg h2] at he'
          have hi := (List.getElem?_eq_some_iff.mp he').1
          have := hR1 (i - 1) e' he'
          have hs2 : q < i ∧ i ≤ e1.length := by omega
          simp only [upd, shu, if_neg h2, if_pos hs2]
          exact this
