/-! what a statement's numbers are -/
def okV (w : WS) (s x : Int32) : Prop := if s = 72 then (x = 0 ∨ x = 1 ∨ x = 2) else if s = 71 then (x = -1 ∨ (0 ≤ x ∧ x ≤ 3)) else cbF w s x = true
theorem fl_ne {s P : Nat} (hs : 0 < s) (hs2 : s < 8) (hP : P ≤ 400) : ¬ flF 0 s P = 0 := by
  unfold flF
  rw [if_pos rfl]
  exact nI_ne0 (by omega) (by omega)
theorem flF_n0 {fo : Int32} {s P : Nat} (h : ¬ fo = 0) : flF fo s P = fo := if_neg h
theorem rnF_val {tp : Nat → Int32} {n : Nat} {w : WS} {s : Int32} {K : K3} (hP : K.2.1 ≤ 400) (h : (rnF tp n w s 0 K).2.1 = 0) : okV w s (rnF tp n w s 0 K).1 := by
  unfold okV
  unfold rnF at h ⊢
  by_cases h72 : s = 72
  · rw [if_pos h72] at h ⊢
    rw [if_pos h72]
    unfold rhF at h ⊢
    split
    · exact Or.inr (Or.inl rfl)
    · next a =>
      rw [if_neg a] at h
      split
      · exact Or.inl rfl
      · next b =>
        rw [if_neg b] at h
        split
        · exact Or.inr (Or.inr rfl)
        · next c =>
          rw [if_neg c] at h
          exact absurd h (fl_ne (by omega) (by omega) hP)
  · rw [if_neg h72] at h ⊢
    rw [if_neg h72]
    by_cases ha : s = 71 ∧ isWd tp K 3 = true
    · rw [if_pos ha] at h ⊢
      rw [if_pos ha.1]
      exact Or.inl rfl
    · rw [if_neg ha] at h ⊢
      by_cases h3 : K.1 = 3
      · rw [if_pos h3] at h ⊢
        have hb : cbF w s (nmF tp (K.2.2 - K.2.1) K.2.1 0) = true := by
          by_cases hb : cbF w s (nmF tp (K.2.2 - K.2.1) K.2.1 0) = true
          · exact hb
          · have h : (if cbF w s (nmF tp (K.2.2 - K.2.1) K.2.1 0) = true then 0 else flF 0 2 K.2.1) = 0 := h
            rw [if_neg hb] at h
            exact absurd h (fl_ne (by omega) (by omega) hP)
        by_cases h71 : s = 71
        · rw [if_pos h71]
          refine Or.inr ?_
          show 0 ≤ nmF tp (K.2.2 - K.2.1) K.2.1 0 ∧ nmF tp (K.2.2 - K.2.1) K.2.1 0 ≤ 3
          unfold cbF at hb
          rw [h71, if_neg (by decide), if_neg (by decide), if_neg (by decide), if_neg (by decide), if_pos rfl] at hb
          exact of_decide_eq_true hb
        · rw [if_neg h71]
          exact hb
      · rw [if_neg h3] at h ⊢
        exact absurd h (fl_ne (by omega) (by omega) hP)
theorem rlF_low {tp : Nat → Int32} {n : Nat} {w : WS} {v : Nat} : ∀ (c i : Nat) (x : Int32 × K3 × (Nat → Int32)) (j : Nat), j < i → (rlF tp n w v c i x).2.2 j = x.2.2 j := by
  intro c
  induction c with
  | zero => intro i x j _; rfl
  | succ c ih =>
    intro i x j hj
    unfold rlF
    split
    · rw [ih (i + 1) _ j (by omega)]
      show upd x.2.2 i _ j = x.2.2 j
      unfold upd
      rw [if_neg (by omega)]
    · rfl
theorem rlF_val {tp : Nat → Int32} {n : Nat} {w : WS} {v : Nat} (hn : n ≤ 400) : ∀ (c i : Nat) (x : Int32 × K3 × (Nat → Int32)), kOk n x.2.1 → (rlF tp n w v c i x).1 = 0 → x.1 = 0 ∧ ∀ j, i ≤ j → j < i + c → okV w (sbc (7 + 2 * v) j) ((rlF tp n w v c i x).2.2 j) := by
  intro c
  induction c with
  | zero => intro i x _ h; exact ⟨h, fun j a b => by omega⟩
  | succ c ih =>
    intro i x hK h
    by_cases h0 : x.1 = 0
    · refine ⟨h0, ?_⟩
      unfold rlF at h ⊢
      rw [if_pos h0] at h ⊢
      rw [h0] at h ⊢
      obtain ⟨a, b⟩ := ih (i + 1) _ (rnF_ok hK) h
      intro j hj hj2
      by_cases hji : j = i
      · subst hji
        rw [rlF_low _ _ _ _ (by omega)]
        show okV w _ (upd x.2.2 j _ j)
        unfold upd
        rw [if_pos rfl]
        exact rnF_val (by have := hK.1; have := hK.2; omega) a
      · exact b j (by omega) (by omega)
    · unfold rlF at h
      rw [if_neg h0] at h
      exact absurd h h0
def okVs (w : WS) (v : Nat) (nm : Nat → Int32) : Prop := ∀ j, j < sbl (7 + 2 * v) → okV w (sbc (7 + 2 * v) j) (nm j)
theorem rdF_val {tp nm : Nat → Int32} {n vb : Nat} {w : WS} {K : K3} (hn : n ≤ 400) (hK : kOk n K) (h : (rdF tp n w 0 vb K nm).1 = 0) : vrb tp K 8 0 = some (rdF tp n w 0 vb K nm).2.1 ∧ (rdF tp n w 0 vb K nm).2.1 < 8 ∧ ((rdF tp n w 0 vb K nm).2.1 = 1 → w.n < 8) ∧ okVs w (rdF tp n w 0 vb K nm).2.1 (rdF tp n w 0 vb K nm).2.2.1 := by
  have hP : K.2.1 ≤ 400 := by have := hK.1; have := hK.2; omega
  unfold rdF at h ⊢
  cases hv : vrb tp K 8 0 with
  | none =>
    rw [hv] at h
    simp only [] at h
    have hf := fl_ne (s := 1) (by omega) (by omega) hP
    have e1 : ∀ (c i : Nat), rlF tp n w vb c i (flF 0 1 K.2.1, K, nm) = (flF 0 1 K.2.1, K, nm) := by
      intro c i
      cases c with
      | zero => rfl
      | succ c => unfold rlF; rw [if_neg hf]
    rw [e1] at h
    simp only [flF_n0 hf, ite_self] at h
    exact absurd h hf
  | some v =>
    rw [hv] at h
    simp only [] at h ⊢
    have hv8 := vrb_lt 8 0 v hv
    have hz : (rlF tp n w v (sbl (7 + 2 * v)) 0 (if v = 1 ∧ 8 ≤ w.n then flF 0 3 K.2.1 else 0, advK tp n K, nm)).1 = 0 := by
      by_cases h4 : (rlF tp n w v (sbl (7 + 2 * v)) 0 (if v = 1 ∧ 8 ≤ w.n then flF 0 3 K.2.1 else 0, advK tp n K, nm)).2.1.1 = 4
      · rw [if_pos h4] at h; exact h
      · rw [if_neg h4] at h
        by_cases h0 : (rlF tp n w v (sbl (7 + 2 * v)) 0 (if v = 1 ∧ 8 ≤ w.n then flF 0 3 K.2.1 else 0, advK tp n K, nm)).1 = 0
        · exact h0
        · rw [flF_n0 h0] at h; exact h
    obtain ⟨a, b⟩ := rlF_val hn _ 0 _ (advK_ok hK) hz
    refine ⟨trivial, by omega, fun h1 => ?_, fun j hj => b j (by omega) (by omega)⟩
    by_cases h8 : 8 ≤ w.n
    · have a : (if v = 1 ∧ 8 ≤ w.n then flF 0 3 K.2.1 else 0) = 0 := a
      rw [if_pos ⟨h1, h8⟩] at a
      exact absurd a (fl_ne (by omega) (by omega) hP)
    · omega
theorem okV_cb {w : WS} {s x : Int32} (h : okV w s x) (h1 : ¬ s = 72) (h2 : ¬ s = 71) : cbF w s x = true := by
  unfold okV at h
  rw [if_neg h1, if_neg h2] at h
  exact h
theorem ok_S {w : WS} {nm : Nat → Int32} (h : okVs w 0 nm) : isSz (nm 0) = true := by
  have := okV_cb (h 0 (by decide)) (by decide) (by decide)
  unfold cbF at this
  rw [if_pos (by decide)] at this
  exact this
theorem ok_B {w : WS} {x : Int32} (h : okV w 66 x) : 0 ≤ x ∧ x < nI w.n := by
  have := okV_cb h (by decide) (by decide)
  unfold cbF at this
  rw [if_neg (by decide), if_neg (by decide), if_neg (by decide), if_pos rfl] at this
  exact of_decide_eq_true this
theorem ok_W {w : WS} {x : Int32} (h : okV w 87 x) : 1 ≤ x ∧ x ≤ 9 := by
  have := okV_cb h (by decide) (by decide)
  unfold cbF at this
  rw [if_neg (by decide), if_neg (by decide), if_pos rfl] at this
  exact of_decide_eq_true this
theorem ok_T {w : WS} {x : Int32} (h : okV w 84 x) : 1 ≤ x ∧ x ≤ 999 := by
  have := okV_cb h (by decide) (by decide)
  unfold cbF at this
  rw [if_neg (by decide), if_neg (by decide), if_neg (by decide), if_neg (by decide), if_neg (by decide), if_pos rfl] at this
  exact of_decide_eq_true this
theorem ok_R {w : WS} {x : Int32} (h : okV w 82 x) : 1 ≤ x ∧ x ≤ 16 := by
  have := okV_cb h (by decide) (by decide)
  unfold cbF at this
  rw [if_neg (by decide), if_neg (by decide), if_neg (by decide), if_neg (by decide), if_neg (by decide), if_neg (by decide), if_pos rfl] at this
  exact of_decide_eq_true this
theorem ok_A {w : WS} {x : Int32} (h : okV w 65 x) : 0 ≤ x ∧ x ≤ 99 := by
  have := okV_cb h (by decide) (by decide)
  unfold cbF at this
  rw [if_neg (by decide), if_neg (by decide), if_neg (by decide), if_neg (by decide), if_neg (by decide), if_neg (by decide), if_neg (by decide), if_pos rfl] at this
  exact of_decide_eq_true this
theorem ok_F {w : WS} {x : Int32} (h : okV w 70 x) : 0 ≤ x ∧ x ≤ 9999 := by
  have := okV_cb h (by decide) (by decide)
  unfold cbF at this
  rw [if_neg (by decide), if_neg (by decide), if_neg (by decide), if_neg (by decide), if_neg (by decide), if_neg (by decide), if_neg (by decide), if_neg (by decide)] at this
  exact of_decide_eq_true this
theorem le_not0 {x : Int32} (h : 1 ≤ x) : ¬ x < 0 := by
  rw [Int32.le_iff_toInt_le] at h
  rw [Int32.lt_iff_toInt_lt]
  have e1 : (1 : Int32).toInt = 1 := rfl
  have e0 : (0 : Int32).toInt = 0 := rfl
  omega
theorem prf_ok {w : WS} {v : Nat} {nm : Nat → Int32} (hw : wOk w) (hn : w.n ≤ 8) (h1 : v = 1 → w.n < 8) (h : okVs w v nm) : prfOk w v nm := by
  refine ⟨fun e => ?_, h1, fun e => ?_, fun e => ?_, fun e => ?_, fun _ => hw⟩
  · subst e
    obtain ⟨p, hp, e⟩ := isSz_pos (ok_S h)
    rw [e]
    exact nI_pos (by have := szN_rg p hp; omega)
  · subst e
    obtain ⟨j, hj, e⟩ := ba_of (by omega) (ok_B (h 0 (by decide)))
    exact ⟨j, by omega, e⟩
  · subst e
    obtain ⟨j, hj, e⟩ := ba_of (by omega) (ok_B (h 1 (by decide)))
    exact ⟨j, by omega, e⟩
  · subst e
    exact le_not0 (ok_R (h 0 (by decide))).1
theorem rm_of {x : Int32} (h : 1 ≤ x ∧ x ≤ 16) : ∃ r, 1 ≤ r ∧ r ≤ 16 ∧ x = nI r := by
  obtain ⟨j, hj, e⟩ := nI_of2 (M := 16) (n := 16) rfl (le_not0 h.1) h.2
  refine ⟨j, ?_, by omega, e⟩
  have h1 := h.1
  rw [e, show (1 : Int32) = nI 1 from rfl, nI_leI (by omega) (by omega)] at h1
  exact h1
theorem mapG_mem {F : Nat → GS → GS} {f : Nat → GS} {i k : Nat} (h : ∀ j g, (F j g).2.2.2 = g.2.2.2) : (mapG F k f i).2.2.2 = (f i).2.2.2 := by
  unfold mapG
  split
  · exact h _ _
  · rfl
theorem shwF_mem {g : Int32} {b : Nat} {st : Int32} (j : Nat) (x : GS) : (shwF g b st j x).2.2.2 = x.2.2.2 := by unfold shwF; split <;> rfl
theorem goOk_map {F : List E3 → List E3} {f : Nat → GS} {i k : Nat} (hF : ∀ es, (F es).Sublist es) (h : goOk (f i).2.2.2) : goOk (mapG (memF F) k f i).2.2.2 := by
  unfold mapG
  split
  · exact h.sub (hF _)
  · exact h
theorem ageW_ok {w : WS} (h : wOk w) : wOk (ageW w) := ⟨h.1, h.2.1, fun i hi => goOk_map (fun _ => List.filter_sublist) (h.2.2 i hi)⟩
theorem pckW_ok {gt id : Int32} : ∀ (c g : Nat) (w : WS), g + c ≤ 4 → wOk w → w.n ≤ 8 → wOk (pckW gt id c g w) := by
  intro c
  induction c with
  | zero => intro g w _ h _; exact h
  | succ c ih =>
    intro g w hg h hn
    unfold pckW
    refine ih (g + 1) _ (by omega) ?_ ?_
    · split
      · exact sndW_ok h hn (by omega)
      · exact h
    · split
      · exact hn
      · exact hn
theorem prf_wOk {w : WS} {v : Nat} {nm : Nat → Int32} (hv : v < 8) (hw : wOk w) (hn : w.n ≤ 8) (h : okVs w v nm) : wOk (prfW w v nm) := by
  unfold prfW
  rcases (show v = 0 ∨ v = 1 ∨ v = 2 ∨ v = 3 ∨ v = 4 ∨ v = 5 ∨ v = 6 ∨ v = 7 by omega) with rfl | rfl | rfl | rfl | rfl | rfl | rfl | rfl
  · show wOk (rszW w (nm 0).toNatClampNeg)
    obtain ⟨p, hp, e⟩ := isSz_pos (ok_S h)
    have := szN_rg p hp
    rw [e, nI_clamp (by omega)]
    exact ⟨this, hw.2.1, fun i hi => by
      show goOk (mapG _ 4 w.gs i).2.2.2
      rw [mapG_mem (F := fun _ g => (g.1, g.2.1, 0, g.2.2.2)) (fun _ _ => rfl)]; exact hw.2.2 i hi⟩
  · show wOk (addW w (nm 0) (nm 1))
    exact ⟨hw.1, hw.2.1, fun i hi => by
      show goOk (mapG _ 4 w.gs i).2.2.2
      rw [mapG_mem shwF_mem]; exact hw.2.2 i hi⟩
  · exact hw
  · show wOk (w.sg (mapG (shwF (nm 0) (nm 1).toNatClampNeg (nm 2)) 4 w.gs))
    exact ⟨hw.1, hw.2.1, fun i hi => by
      show goOk (mapG _ 4 w.gs i).2.2.2
      rw [mapG_mem shwF_mem]; exact hw.2.2 i hi⟩
  · exact ageW_ok hw
  · show wOk (rmW w (nm 0))
    exact ⟨hw.1, rm_of (ok_R (h 0 (by decide))), fun i hi => goOk_map (fun es => shrL_sub _ _ es) (hw.2.2 i hi)⟩
  · exact ageW_ok hw
  · exact pckW_ok 4 0 w (by omega) hw hn
/-! a text that is told: world, statements, token, verb, numbers, fault -/
abbrev TL : Type := WS × Nat × K3 × Nat × (Nat → Int32) × Int32
def tl1 (tp : Nat → Int32) (n : Nat) (x : TL) : TL :=
  let r := rdF tp n x.1 x.2.2.2.2.2 x.2.2.2.1 x.2.2.1 x.2.2.2.2.1
  if r.1 = 0 then (prfW x.1 r.2.1 r.2.2.1, x.2.1 + 1, r.2.2.2, r.2.1, r.2.2.1, r.1) else (x.1, x.2.1, r.2.2.2, r.2.1, r.2.2.1, r.1)
def tlF (tp : Nat → Int32) (n : Nat) : Nat → TL → TL
  | 0, x => x
  | c + 1, x => if x.2.2.2.2.2 = 0 ∧ ¬ x.2.2.1.1 = 0 then tlF tp n c (tl1 tp n x) else x
theorem wEq.ok {a b : WS} (h : wEq a b) (hw : wOk b) : wOk a := by
  obtain ⟨_, g, p, _, _, r, _⟩ := h
  obtain ⟨x, y, z⟩ := hw
  refine ⟨by rw [p]; exact x, by rw [r]; exact y, fun i hi => ?_⟩
  have := (g i hi).2.2
  rw [this]
  exact z i hi
theorem rdF_kOk {tp nm : Nat → Int32} {n vb : Nat} {w : WS} {fo : Int32} {K : K3} (hK : kOk n K) : kOk n (rdF tp n w fo vb K nm).2.2.2 := by
  unfold rdF
  refine advK_ok ?_
  apply rlF_ok
  show kOk n (match vrb tp K 8 0 with
    | none => (flF fo 1 K.2.1, vb, K)
    | some v => (if v = 1 ∧ 8 ≤ w.n then flF fo 3 K.2.1 else fo, v, advK tp n K)).2.2
  split
  · exact hK
  · exact advK_ok hK
theorem k_tell {G : SG} {d : Nat} {h : AH} {s : CS} (hal : sg_al G = false) (hC : CA h s) (hI : wOk s.1) : SW G mX8_tell (d + 8) 0 0 0 [.ref 0, .retAddr 0, .retAddr 0] [] h (fun r h' => SameC h h' ∧ ∃ w0 vb nm, wEq w0 s.1 ∧ (((tlF s.2.1 s.2.2.1 400 (w0, 0, advK s.2.1 s.2.2.1 (0, 0, 0), vb, nm, 0)).2.2.2.2.2 = 0 ∧ r = some (.int (nI (tlF s.2.1 s.2.2.1 400 (w0, 0, advK s.2.1 s.2.2.1 (0, 0, 0), vb, nm, 0)).2.1)) ∧ CA h' ((tlF s.2.1 s.2.2.1 400 (w0, 0, advK s.2.1 s.2.2.1 (0, 0, 0), vb, nm, 0)).1, s.2.1, 0, 0)) ∨ (¬ (tlF s.2.1 s.2.2.1 400 (w0, 0, advK s.2.1 s.2.2.1 (0, 0, 0), vb, nm, 0)).2.2.2.2.2 = 0 ∧ r = some (.int (-1)) ∧ CA h' (s.1, s.2.1, 0, (tlF s.2.1 s.2.2.1 400 (w0, 0, advK s.2.1 s.2.2.1 (0, 0, 0), vb, nm, 0)).2.2.2.2.2)))) := by
  obtain ⟨b, q, vb, K, nm, H⟩ := hC
  obtain ⟨hbq, h0, hW, hQ, hT, hL, hB⟩ := id H
  have hb : 9 ≤ b := by omega
  have hq : 9 ≤ q := by omega
  have hq73 : q + 32 ≤ 73 := by omega
  have hn4 := hT.2.2
  obtain ⟨⟨u1, u2, u3, u4, u5, hQ0⟩, -⟩ := id hQ
  refine sw_iconst (v := 0) dX8_tell_0 (by decide) ?_
  refine sw_istore_n dX8_tell_1 (by decide) rfl ?_
  refine sw_aload_n dX8_tell_2 rfl ?_
  refine sw_getf dX8_tell_3 fl_X8_32 (h0) rfl ?_
  refine sw_aload_n dX8_tell_6 rfl ?_
  refine sw_getf dX8_tell_7 fl_X8_28 (h0) rfl ?_
  refine sw_cv1 dX8_tell_10 cv_X8_52 (rc_of hQ0 rfl) (m_wcopy hal hQ hW (by omega)) (fun r g1 hr => ?_)
  obtain ⟨rfl, ⟨w0, hwE, hQ1⟩, hS1⟩ := hr
  have h0 := (hS1.2 0 (by omega)).trans h0
  have hT := hT.kept (h' := g1) (fun j x y => hS1.2 j (by omega))
  have hL := hL.kept (hS1.2 73 (by omega)) (hS1.2 74 (by omega))
  refine sw_aload_n dX8_tell_13 rfl ?_
  refine sw_getf dX8_tell_14 fl_X8_40 (h0) rfl ?_
  refine sw_cv0 dX8_tell_17 cv_X8_56 (rc_of hL.1.1 rfl) (m_begin hT hL) (fun r g2 hr => ?_)
  obtain ⟨rfl, hL, hS2⟩ := hr
  have h0 := (hS2.2 0 (by omega)).trans h0
  have hT := hT.kept (h' := g2) (fun j x y => hS2.2 j (by omega))
  have hW2 : WorldAt g2 b s.1 := hW.kept (fun j x y => (hS2.2 j (by omega)).trans (hS1.2 j (by omega)))
  have hB2 : TabAt g2 := hB.kept (fun j x y => (hS2.2 j (by omega)).trans (hS1.2 j (by omega)))
  have hQ2 : WorldAt g2 q w0 := hQ1.kept (fun j x y => hS2.2 j (by omega))
  have hC2 : SameC h g2 := ⟨hS2.1.trans hS1.1, fun j hj => (hS2.2 j (by omega)).trans (hS1.2 j (by omega))⟩
  have hK2 : kOk s.2.2.1 (advK s.2.1 s.2.2.1 (0, 0, 0)) := advK_ok ⟨Nat.le_refl _, Nat.zero_le _⟩
  clear hW hQ hB hS1 hS2 H
  have fin : ∀ (g : AH) (i : Nat) (x : TL), tlF s.2.1 s.2.2.1 400 (w0, 0, advK s.2.1 s.2.2.1 (0, 0, 0), vb, nm, 0) = x → g[0]? = some (.inr (6, [.ref 1, .ref 3, .ref b, .ref q, .ref 73])) → TapeAt g s.2.1 s.2.2.1 → TelK g x.2.2.2.2.2 x.2.2.2.1 x.2.2.1 x.2.2.2.2.1 → WorldAt g b s.1 → WorldAt g q x.1 → TabAt g → SameC h g → SW G mX8_tell (d + 8) 0 0 83 [.ref 0, .int (nI x.2.1), .int (nI i)] [] g (fun r h' => SameC h h' ∧ ∃ w0 vb nm, wEq w0 s.1 ∧ (((tlF s.2.1 s.2.2.1 400 (w0, 0, advK s.2.1 s.2.2.1 (0, 0, 0), vb, nm, 0)).2.2.2.2.2 = 0 ∧ r = some (.int (nI (tlF s.2.1 s.2.2.1 400 (w0, 0, advK s.2.1 s.2.2.1 (0, 0, 0), vb, nm, 0)).2.1)) ∧ CA h' ((tlF s.2.1 s.2.2.1 400 (w0, 0, advK s.2.1 s.2.2.1 (0, 0, 0), vb, nm, 0)).1, s.2.1, 0, 0)) ∨ (¬ (tlF s.2.1 s.2.2.1 400 (w0, 0, advK s.2.1 s.2.2.1 (0, 0, 0), vb, nm, 0)).2.2.2.2.2 = 0 ∧ r = some (.int (-1)) ∧ CA h' (s.1, s.2.1, 0, (tlF s.2.1 s.2.2.1 400 (w0, 0, advK s.2.1 s.2.2.1 (0, 0, 0), vb, nm, 0)).2.2.2.2.2)))) := by
    intro g i x hx h0 hT hL hW hQ hB hC
    refine sw_aload_n dX8_tell_83 rfl ?_
    refine sw_getf dX8_tell_84 fl_X8_10 (h0) rfl ?_
    refine sw_iconst (v := 0) dX8_tell_87 (by decide) ?_
    refine sw_puti dX8_tell_88 fl_X8_44 (hT.1) (Nat.le_of_ble_eq_true rfl) (fun g1 z1 e1 o1 => ?_)
    have h0 := (o1 0 (by omega)).trans h0
    have hT1 : TapeAt g1 s.2.1 0 := ⟨e1, (o1 2 (by omega)).trans hT.2.1, by omega⟩
    have hL := hL.kept (o1 73 (by omega)) (o1 74 (by omega))
    have hW := hW.kept (h' := g1) (fun j x y => o1 j (by omega))
    have hQ := hQ.kept (h' := g1) (fun j x y => o1 j (by omega))
    have hB := hB.kept (h' := g1) (fun j x y => o1 j (by omega))
    have hC := hC.tr (h2 := g1) ⟨z1, fun j hj => o1 j (by omega)⟩
    refine sw_aload_n dX8_tell_91 rfl ?_
    refine sw_getf dX8_tell_92 fl_X8_40 (h0) rfl ?_
    refine sw_getf dX8_tell_95 fl_X8_79 (hL.1.1) rfl ?_
    refine sw_ifeq (tgt := 103) dX8_tell_98 (by decide) (fun hf => ?_) (fun hf => ?_)
    · refine sw_aload_n dX8_tell_103 rfl ?_
      refine sw_getf dX8_tell_104 fl_X8_28 (h0) rfl ?_
      refine sw_astore_n dX8_tell_107 (by decide) rfl ?_
      refine sw_aload_n dX8_tell_108 rfl ?_
      refine sw_aload_n dX8_tell_109 rfl ?_
      refine sw_getf dX8_tell_110 fl_X8_32 (h0) rfl ?_
      refine sw_puta dX8_tell_113 fl_X8_28 (h0) (Nat.le_of_ble_eq_true rfl) (fun g2 z2 e2 o2 => ?_)
      refine sw_aload_n dX8_tell_116 rfl ?_
      refine sw_aload_n dX8_tell_117 rfl ?_
      refine sw_puta dX8_tell_118 fl_X8_32 (e2) (Nat.le_of_ble_eq_true rfl) (fun g3 z3 e3 o3 => ?_)
      have oo : ∀ j, j ≠ 0 → g3[j]? = g1[j]? := fun j hj => (o3 j hj).trans (o2 j hj)
      have hL := hL.kept (oo 73 (by omega)) (oo 74 (by omega))
      have hL : TelK g3 0 x.2.2.2.1 x.2.2.1 x.2.2.2.2.1 := by rw [← hf]; exact hL
      refine sw_iload_n dX8_tell_121 rfl ?_
      exact sw_ireturn dX8_tell_122 rfl rfl (⟨hC.tr ⟨z3.trans z2, fun j hj => oo j (by omega)⟩, w0, vb, nm, hwE, Or.inl ⟨by rw [hx]; exact hf, by rw [hx], by rw [hx]; exact ⟨q, b, _, _, _, by omega, e3, hQ.kept (fun j x y => oo j (by omega)), hW.S.kept (fun j x y => oo j (by omega)), hT1.kept (fun j x y => oo j (by omega)), hL, hB.kept (fun j x y => oo j (by omega))⟩⟩⟩)
    · refine sw_iconst (v := (-1)) dX8_tell_101 (by decide) ?_
      exact sw_ireturn dX8_tell_102 rfl rfl (⟨hC, w0, vb, nm, hwE, Or.inr ⟨by rw [hx]; exact hf, rfl, by rw [hx]; exact ⟨b, q, _, _, _, hbq, h0, hW, hQ.S, hT1, hL, hB⟩⟩⟩)
  have loop : ∀ (c i : Nat) (g : AH) (x : TL), i + c = 400 → tlF s.2.1 s.2.2.1 c x = tlF s.2.1 s.2.2.1 400 (w0, 0, advK s.2.1 s.2.2.1 (0, 0, 0), vb, nm, 0) → wOk x.1 → kOk s.2.2.1 x.2.2.1 → g[0]? = some (.inr (6, [.ref 1, .ref 3, .ref b, .ref q, .ref 73])) → TapeAt g s.2.1 s.2.2.1 → TelK g x.2.2.2.2.2 x.2.2.2.1 x.2.2.1 x.2.2.2.2.1 → WorldAt g b s.1 → WorldAt g q x.1 → TabAt g → SameC h g → SW G mX8_tell (d + 8) 0 0 22 [.ref 0, .int (nI x.2.1), .int (nI i)] [] g (fun r h' => SameC h h' ∧ ∃ w0 vb nm, wEq w0 s.1 ∧ (((tlF s.2.1 s.2.2.1 400 (w0, 0, advK s.2.1 s.2.2.1 (0, 0, 0), vb, nm, 0)).2.2.2.2.2 = 0 ∧ r = some (.int (nI (tlF s.2.1 s.2.2.1 400 (w0, 0, advK s.2.1 s.2.2.1 (0, 0, 0), vb, nm, 0)).2.1)) ∧ CA h' ((tlF s.2.1 s.2.2.1 400 (w0, 0, advK s.2.1 s.2.2.1 (0, 0, 0), vb, nm, 0)).1, s.2.1, 0, 0)) ∨ (¬ (tlF s.2.1 s.2.2.1 400 (w0, 0, advK s.2.1 s.2.2.1 (0, 0, 0), vb, nm, 0)).2.2.2.2.2 = 0 ∧ r = some (.int (-1)) ∧ CA h' (s.1, s.2.1, 0, (tlF s.2.1 s.2.2.1 400 (w0, 0, advK s.2.1 s.2.2.1 (0, 0, 0), vb, nm, 0)).2.2.2.2.2)))) := by
    intro c
    induction c with
    | zero =>
      intro i g x hi he hw hK h0 hT hL hW hQ hB hC
      have : i = 400 := by omega
      subst this
      refine sw_iload_n dX8_tell_22 rfl ?_
      refine sw_sipush (v := 400) dX8_tell_23 (by decide) ?_
      refine sw_cmpge (tgt := 83) dX8_tell_26 (by decide) (fun hc => ?_) (fun hc => ?_)
      · exact fin g 400 x he.symm h0 hT hL hW hQ hB hC
      · exact absurd (nI_le (a := 400) (b := 400) (Nat.le_refl _) (by omega)) hc
    | succ c ih =>
      intro i g x hi he hw hK h0 hT hL hW hQ hB hC
      refine sw_iload_n dX8_tell_22 rfl ?_
      refine sw_sipush (v := 400) dX8_tell_23 (by decide) ?_
      refine sw_cmpge (tgt := 83) dX8_tell_26 (by decide) (fun hc => ?_) (fun hc => ?_)
      · exact absurd hc (nI_ge (b := 400) (by omega) (by omega))
      · refine sw_aload_n dX8_tell_29 rfl ?_
        refine sw_getf dX8_tell_30 fl_X8_40 (h0) rfl ?_
        refine sw_pcv0 dX8_tell_33 cv_X8_59 (rc_of hL.1.1 rfl) (m_hasMore hL) ?_
        refine sw_ifeq (tgt := 83) dX8_tell_36 (by decide) (fun hm => ?_) (fun hm => ?_)
        · have hm := bz_eq0.mp hm
          rw [tlF, if_neg hm] at he
          exact fin g i x he.symm h0 hT hL hW hQ hB hC
        · have hm := bz_eq1.mp hm
          rw [tlF, if_pos hm] at he
          refine sw_aload_n dX8_tell_39 rfl ?_
          refine sw_getf dX8_tell_40 fl_X8_40 (h0) rfl ?_
          refine sw_aload_n dX8_tell_43 rfl ?_
          refine sw_getf dX8_tell_44 fl_X8_32 (h0) rfl ?_
          refine sw_cv1 dX8_tell_47 cv_X8_63 (rc_of hL.1.1 rfl) (m_reads hQ hq73 hT hL hK hm.1) (fun r g3 hr => ?_)
          obtain ⟨rfl, hL3, hS3⟩ := hr
          have h0 := (hS3.2 0 (by omega) (by omega)).trans h0
          have hT := hT.kept (h' := g3) (fun j x y => hS3.2 j (by omega) (by omega))
          have hW := hW.kept (h' := g3) (fun j x y => hS3.2 j (by omega) (by omega))
          have hQ := hQ.kept (h' := g3) (fun j x y => hS3.2 j (by omega) (by omega))
          have hB := hB.kept (h' := g3) (fun j x y => hS3.2 j (by omega) (by omega))
          have hC := hC.tr (h2 := g3) ⟨hS3.1, fun j hj => hS3.2 j (by omega) (by omega)⟩
          have hK3 : kOk s.2.2.1 (tl1 s.2.1 s.2.2.1 x).2.2.1 := by
            unfold tl1
            simp only []
            split
            · exact rdF_kOk hK
            · exact rdF_kOk hK
          have hL := hL3
          refine sw_ifeq (tgt := 77) dX8_tell_50 (by decide) (fun hr0 => ?_) (fun hr0 => ?_)
          · have hr0 := bz_eq0.mp hr0
            have ht : tl1 s.2.1 s.2.2.1 x = (x.1, x.2.1, (rdF s.2.1 s.2.2.1 x.1 x.2.2.2.2.2 x.2.2.2.1 x.2.2.1 x.2.2.2.2.1).2.2.2, (rdF s.2.1 s.2.2.1 x.1 x.2.2.2.2.2 x.2.2.2.1 x.2.2.1 x.2.2.2.2.1).2.1, (rdF s.2.1 s.2.2.1 x.1 x.2.2.2.2.2 x.2.2.2.1 x.2.2.1 x.2.2.2.2.1).2.2.1, (rdF s.2.1 s.2.2.1 x.1 x.2.2.2.2.2 x.2.2.2.1 x.2.2.1 x.2.2.2.2.1).1) := by unfold tl1; simp only []; rw [if_neg hr0]
            rw [ht] at he hK3
            refine sw_iinc (v := nI (i + 1)) dX8_tell_77 rfl (nI_1 i) (by decide) rfl ?_
            refine sw_goto (tgt := 22) dX8_tell_80 (by decide) ?_
            refine ih (i + 1) g3 (x.1, x.2.1, (rdF s.2.1 s.2.2.1 x.1 x.2.2.2.2.2 x.2.2.2.1 x.2.2.1 x.2.2.2.2.1).2.2.2, (rdF s.2.1 s.2.2.1 x.1 x.2.2.2.2.2 x.2.2.2.1 x.2.2.1 x.2.2.2.2.1).2.1, (rdF s.2.1 s.2.2.1 x.1 x.2.2.2.2.2 x.2.2.2.1 x.2.2.1 x.2.2.2.2.1).2.2.1, (rdF s.2.1 s.2.2.1 x.1 x.2.2.2.2.2 x.2.2.2.1 x.2.2.1 x.2.2.2.2.1).1) (by omega) he hw hK3 h0 hT hL hW hQ hB hC
          · have hr0 := bz_eq1.mp hr0
            have ht : tl1 s.2.1 s.2.2.1 x = (prfW x.1 (rdF s.2.1 s.2.2.1 x.1 x.2.2.2.2.2 x.2.2.2.1 x.2.2.1 x.2.2.2.2.1).2.1 (rdF s.2.1 s.2.2.1 x.1 x.2.2.2.2.2 x.2.2.2.1 x.2.2.1 x.2.2.2.2.1).2.2.1, x.2.1 + 1, (rdF s.2.1 s.2.2.1 x.1 x.2.2.2.2.2 x.2.2.2.1 x.2.2.1 x.2.2.2.2.1).2.2.2, (rdF s.2.1 s.2.2.1 x.1 x.2.2.2.2.2 x.2.2.2.1 x.2.2.1 x.2.2.2.2.1).2.1, (rdF s.2.1 s.2.2.1 x.1 x.2.2.2.2.2 x.2.2.2.1 x.2.2.1 x.2.2.2.2.1).2.2.1, (rdF s.2.1 s.2.2.1 x.1 x.2.2.2.2.2 x.2.2.2.1 x.2.2.1 x.2.2.2.2.1).1) := by unfold tl1; simp only []; rw [if_pos hr0]
            rw [ht] at he hK3
            have hn8 := hQ.2.2.2.2.1
            have hval := hr0
            rw [hm.1] at hval
            obtain ⟨-, hv8, hv1, hvs⟩ := rdF_val hT.2.2 hK hval
            rw [← hm.1] at hv8 hv1 hvs
            refine sw_aload_n dX8_tell_53 rfl ?_
            refine sw_getf dX8_tell_54 fl_X8_32 (h0) rfl ?_
            refine sw_aload_n dX8_tell_57 rfl ?_
            refine sw_getf dX8_tell_58 fl_X8_40 (h0) rfl ?_
            refine sw_getf dX8_tell_61 fl_X8_67 (hL.1.1) rfl ?_
            refine sw_aload_n dX8_tell_64 rfl ?_
            refine sw_getf dX8_tell_65 fl_X8_40 (h0) rfl ?_
            refine sw_getf dX8_tell_68 fl_X8_71 (hL.1.1) rfl ?_
            refine sw_cv2 dX8_tell_71 cv_X8_75 (rc_of hQ.1 rfl) (m_perform hQ hB hq hq73 hL.1.2.1 hv8 (prf_ok hw hn8 hv1 hvs)) (fun r g4 hr => ?_)
            obtain ⟨rfl, hQ, hB, hS4⟩ := hr
            have k4 : ∀ j, (j < 3 ∨ 9 ≤ j) → (j < q ∨ q + 32 ≤ j) → g4[j]? = g3[j]? := fun j a b => hS4.2 j (by omega) (by omega) (by omega) (by omega) b
            have h0 := (k4 0 (by omega) (by omega)).trans h0
            have hT := hT.kept (h' := g4) (fun j x y => k4 j (by omega) (by omega))
            have hW := hW.kept (h' := g4) (fun j x y => k4 j (by omega) (by omega))
            have hL := hL.kept (k4 73 (by omega) (by omega)) (k4 74 (by omega) (by omega))
            have hC := hC.tr (h2 := g4) ⟨hS4.1, fun j hj => k4 j (by omega) (by omega)⟩
            refine sw_iinc (v := nI (x.2.1 + 1)) dX8_tell_74 rfl (nI_1 _) (by decide) rfl ?_
            refine sw_iinc (v := nI (i + 1)) dX8_tell_77 rfl (nI_1 i) (by decide) rfl ?_
            refine sw_goto (tgt := 22) dX8_tell_80 (by decide) ?_
            exact ih (i + 1) g4 _ (by omega) he (prf_wOk hv8 hw hn8 hvs) hK3 h0 hT hL hW hQ hB hC
  refine sw_iconst (v := 0) dX8_tell_20 (by decide) ?_
  refine sw_istore_n dX8_tell_21 (by decide) rfl ?_
  exact loop 400 0 g2 (w0, 0, advK s.2.1 s.2.2.1 (0, 0, 0), vb, nm, 0) (by omega) rfl (hwE.ok hI) hK2 h0 hT hL hW2 hQ2 hB2 hC2
