def UpAt (h : AH) (m : Nat) : Prop := ∃ u : Nat → Int32, h[80]? = some (.inl (1, 8, .inl u)) ∧ ∀ b, b < 8 → u b = bz (m.testBit b = true)
def KW (f ks wt : Nat → Int32) : Prop := ∀ b, b < 8 → f (5 + b) = ks b ∧ f (13 + b) = wt b
theorem n_takes {G : SG} {d b p j j' : Nat} {h : AH} {v : MV} {f laid nx : Nat → Int32} (h5 : MoAt h v) (h6 : RoAt h f) (h78 : h[78]? = some (.inl (0, 97, .inl laid))) (h82 : h[82]? = some (.inl (0, 8, .inl nx))) (hb : b < 8) (hp : 1 < p) (hp2 : p ≤ 97) (hj : nx b = nI j) (hjj : j ≤ j') (hj' : j' < p) (hfr : laid (slt (offN (f (5 + b)) p) (skpN (f (5 + b)) p) p j') = -1) (hfi : ∀ i, i < j' → ¬ laid (slt (offN (f (5 + b)) p) (skpN (f (5 + b)) p) p i) = -1) : SW G mX9_takes (d + 2) 0 0 0 [.ref 75, .int (nI b), .int (nI p), .retAddr 0] [] h (fun r h' => r = none ∧ h'.length = h.length ∧ h'[78]? = some (.inl (0, 97, .inl (upd laid (slt (offN (f (5 + b)) p) (skpN (f (5 + b)) p) p j') (nI b)))) ∧ h'[82]? = some (.inl (0, 8, .inl (upd nx b (nI j')))) ∧ ∀ i, i ≠ 78 → i ≠ 82 → h'[i]? = h[i]?) := by
  have ho := offN_lt (k := f (5 + b)) (p := p) (by omega)
  have hs := skpN_lt (k := f (5 + b)) (p := p) (by omega)
  generalize hoe : offN (f (5 + b)) p = o at *
  generalize hse : skpN (f (5 + b)) p = s at *
  have bd : ∀ i, i < p → o + i * s < 2 ^ 31 := by
    intro i hi
    have : i * s ≤ 97 * 97 := Nat.mul_le_mul (by omega) (by omega)
    omega
  have sl : ∀ i, i < p → (nI o + nI i * nI s) - (nI o + nI i * nI s) / nI p * nI p = nI (slt o s p i) := by
    intro i hi
    rw [pk_mul, nI_add, pk_rem (bd i hi) (by omega) (by omega)]
    rfl
  have hpz : ¬ nI p = 0 := nI_ne0 (by omega) (by omega)
  have loop : ∀ (c j : Nat) (g : AH) (nx' : Nat → Int32), j + c = j' → g.length = h.length → MoAt g v → RoAt g f → g[78]? = some (.inl (0, 97, .inl laid)) → g[82]? = some (.inl (0, 8, .inl nx')) → nx' b = nI j → upd nx' b (nI j') = upd nx b (nI j') → (∀ i, i ≠ 78 → i ≠ 82 → g[i]? = h[i]?) → SW G mX9_takes (d + 2) 0 0 23 [.ref 75, .int (nI b), .int (nI p), .int (nI (slt o s p j))] [] g (fun r h' => r = none ∧ h'.length = h.length ∧ h'[78]? = some (.inl (0, 97, .inl (upd laid (slt o s p j') (nI b)))) ∧ h'[82]? = some (.inl (0, 8, .inl (upd nx b (nI j')))) ∧ ∀ i, i ≠ 78 → i ≠ 82 → h'[i]? = h[i]?) := by
    intro c
    induction c with
    | zero =>
      intro j g nx' hc hz h5 h6 h78 h82 hnj hnn hk
      have : j = j' := by omega
      subst this
      have hlt := slt_lt (o := o) (s := s) (j := j) (show 0 < p by omega)
      refine sw_aload_n dX9_takes_23 rfl ?_
      refine sw_getf dX9_takes_24 fl_X9_16 (h5) rfl ?_
      refine sw_iload_n dX9_takes_27 rfl ?_
      refine sw_iald dX9_takes_28 (h78) (vp_in_nI (by omega) (by omega)) (nIat (by omega) hfr) ?_
      refine sw_iconst (v := (-1)) dX9_takes_29 (by decide) ?_
      refine sw_cmpeq (tgt := 69) dX9_takes_30 (by decide) (fun hc => ?_) (fun hc => ?_)
      · refine sw_aload_n dX9_takes_69 rfl ?_
        refine sw_getf dX9_takes_70 fl_X9_16 (h5) rfl ?_
        refine sw_iload_n dX9_takes_73 rfl ?_
        refine sw_iload_n dX9_takes_74 rfl ?_
        refine sw_iast dX9_takes_75 (h78) (vp_in_nI (by omega) (by omega)) (fun g1 z1 e1 o1 => ?_)
        rw [nIupd (by omega)] at e1
        have e82 : nx' = upd nx b (nI j) := by
          rw [← hnn]
          funext i
          unfold upd
          split
          · next hi => rw [hi]; exact hnj
          · rfl
        exact sw_return dX9_takes_76 rfl (⟨rfl, z1.trans hz, e1, by rw [o1 82 (by omega), h82, e82], fun i a b => (o1 i a).trans (hk i a b)⟩)
      · exact absurd rfl hc
    | succ c ih =>
      intro j g nx' hc hz h5 h6 h78 h82 hnj hnn hk
      have hlt := slt_lt (o := o) (s := s) (j := j) (show 0 < p by omega)
      refine sw_aload_n dX9_takes_23 rfl ?_
      refine sw_getf dX9_takes_24 fl_X9_16 (h5) rfl ?_
      refine sw_iload_n dX9_takes_27 rfl ?_
      refine sw_iald dX9_takes_28 (h78) (vp_in_nI (by omega) (by omega)) (nIat (by omega) rfl) ?_
      refine sw_iconst (v := (-1)) dX9_takes_29 (by decide) ?_
      refine sw_cmpeq (tgt := 69) dX9_takes_30 (by decide) (fun hc => ?_) (fun hc => ?_)
      · exact absurd hc (hfi j (by omega))
      · refine sw_aload_n dX9_takes_33 rfl ?_
        refine sw_getf dX9_takes_34 fl_X9_29 (h5) rfl ?_
        refine sw_iload_n dX9_takes_37 rfl ?_
        refine sw_dup2 dX9_takes_38 rfl rfl ?_
        refine sw_iald dX9_takes_39 (h82) (vp_in_nI (by omega) (by omega)) (nIat (by omega) hnj) ?_
        refine sw_iconst (v := 1) dX9_takes_40 (by decide) ?_
        refine sw_iadd dX9_takes_41 ?_
        refine sw_iast dX9_takes_42 (h82) (vp_in_nI (by omega) (by omega)) (fun g1 z1 e1 o1 => ?_)
        rw [nIupd (by omega), nI_1] at e1
        have h5 : MoAt g1 v := (o1 75 (by omega)).trans h5
        have h6 : RoAt g1 f := (o1 76 (by omega)).trans h6
        refine sw_aload_n dX9_takes_43 rfl ?_
        refine sw_iload_n dX9_takes_44 rfl ?_
        refine sw_iload_n dX9_takes_45 rfl ?_
        refine sw_pcv2 dX9_takes_46 cv_X9_53 (rc_of h5 rfl) (n_offset h5 h6 hb (by omega) hp2) ?_
        rw [hoe]
        refine sw_aload_n dX9_takes_49 rfl ?_
        refine sw_getf dX9_takes_50 fl_X9_29 (h5) rfl ?_
        refine sw_iload_n dX9_takes_53 rfl ?_
        refine sw_iald dX9_takes_54 (e1) (vp_in_nI (by omega) (by omega)) (nIat (by omega) upd_at) ?_
        refine sw_aload_n dX9_takes_55 rfl ?_
        refine sw_iload_n dX9_takes_56 rfl ?_
        refine sw_iload_n dX9_takes_57 rfl ?_
        refine sw_pcv2 dX9_takes_58 cv_X9_56 (rc_of h5 rfl) (n_skip h5 h6 hb (by omega) hp2) ?_
        rw [hse]
        refine sw_imul dX9_takes_61 ?_
        refine sw_iadd dX9_takes_62 ?_
        refine sw_iload_n dX9_takes_63 rfl ?_
        refine sw_irem dX9_takes_64 (hpz) ?_
        rw [sl (j + 1) (by omega)]
        refine sw_istore_n dX9_takes_65 (by decide) rfl ?_
        refine sw_goto (tgt := 23) dX9_takes_66 (by decide) ?_
        exact ih (j + 1) g1 _ (by omega) (z1.trans hz) h5 h6 ((o1 78 (by omega)).trans h78) e1 upd_at (by rw [upd_upd]; exact hnn) (fun i a b => (o1 i b).trans (hk i a b))
  refine sw_aload_n dX9_takes_0 rfl ?_
  refine sw_iload_n dX9_takes_1 rfl ?_
  refine sw_iload_n dX9_takes_2 rfl ?_
  refine sw_pcv2 dX9_takes_3 cv_X9_53 (rc_of h5 rfl) (n_offset h5 h6 hb (by omega) hp2) ?_
  rw [hoe]
  refine sw_aload_n dX9_takes_6 rfl ?_
  refine sw_getf dX9_takes_7 fl_X9_29 (h5) rfl ?_
  refine sw_iload_n dX9_takes_10 rfl ?_
  refine sw_iald dX9_takes_11 (h82) (vp_in_nI (by omega) (by omega)) (nIat (by omega) hj) ?_
  refine sw_aload_n dX9_takes_12 rfl ?_
  refine sw_iload_n dX9_takes_13 rfl ?_
  refine sw_iload_n dX9_takes_14 rfl ?_
  refine sw_pcv2 dX9_takes_15 cv_X9_56 (rc_of h5 rfl) (n_skip h5 h6 hb (by omega) hp2) ?_
  rw [hse]
  refine sw_imul dX9_takes_18 ?_
  refine sw_iadd dX9_takes_19 ?_
  refine sw_iload_n dX9_takes_20 rfl ?_
  refine sw_irem dX9_takes_21 (hpz) ?_
  rw [sl j (by omega)]
  refine sw_istore_n dX9_takes_22 (by decide) rfl ?_
  exact loop (j' - j) j h nx (by omega) rfl h5 h6 h78 h82 hj rfl (fun _ _ _ => rfl)
theorem hvy_ge {m n : Nat} {wt : Nat → Int32} (hm : ∀ b, m.testBit b = true → b < n) : ∀ c, hvy m wt (n + c) = hvy m wt n := by
  intro c
  induction c with
  | zero => rfl
  | succ c ih =>
    rw [← Nat.add_assoc, hvy, if_neg (fun q => by have := hm _ q; omega)]
    exact ih
theorem n_greatest {G : SG} {d m : Nat} {h : AH} {v : MV} {f ks wt : Nat → Int32} (h5 : MoAt h v) (h6 : RoAt h f) (hF : KW f ks wt) (hU : UpAt h m) : SW G mX9_greatest d 0 0 0 [.ref 75, .retAddr 0, .retAddr 0] [] h (fun r h' => r = some (.int (hvy m wt 8)) ∧ h' = h) := by
  obtain ⟨u, h80, hu⟩ := hU
  have loop : ∀ (c i : Nat), i + c = 8 → SW G mX9_greatest d 0 0 4 [.ref 75, .int (hvy m wt i), .int (nI i)] [] h (fun r h' => r = some (.int (hvy m wt 8)) ∧ h' = h) := by
    intro c
    induction c with
    | zero =>
      intro i hi
      have : i = 8 := by omega
      subst this
      refine sw_iload_n dX9_greatest_4 rfl ?_
      refine sw_bipush (v := 8) dX9_greatest_5 (by decide) ?_
      refine sw_cmpge (tgt := 52) dX9_greatest_7 (by decide) (fun hc => ?_) (fun hc => ?_)
      · refine sw_iload_n dX9_greatest_52 rfl ?_
        exact sw_ireturn dX9_greatest_53 rfl rfl (⟨rfl, rfl⟩)
      · exact absurd (nI_le (a := 8) (b := 8) (Nat.le_refl _) (by omega)) hc
    | succ c ih =>
      intro i hi
      have step : ∀ x : Int32, hvy m wt (i + 1) = x → SW G mX9_greatest d 0 0 45 [.ref 75, .int (hvy m wt i), .int (nI i)] [.int x] h (fun r h' => r = some (.int (hvy m wt 8)) ∧ h' = h) := by
        intro x hx
        subst hx
        refine sw_istore_n dX9_greatest_45 (by decide) rfl ?_
        refine sw_iinc (v := nI (i + 1)) dX9_greatest_46 rfl (nI_1 i) (by decide) rfl ?_
        refine sw_goto (tgt := 4) dX9_greatest_49 (by decide) ?_
        exact ih (i + 1) (by omega)
      refine sw_iload_n dX9_greatest_4 rfl ?_
      refine sw_bipush (v := 8) dX9_greatest_5 (by decide) ?_
      refine sw_cmpge (tgt := 52) dX9_greatest_7 (by decide) (fun hc => ?_) (fun hc => ?_)
      · exact absurd hc (nI_ge (b := 8) (by omega) (by omega))
      · refine sw_aload_n dX9_greatest_10 rfl ?_
        refine sw_getf dX9_greatest_11 fl_X9_22 (h5) rfl ?_
        refine sw_iload_n dX9_greatest_14 rfl ?_
        refine sw_zald dX9_greatest_15 (h80) (vp_in_nI (by omega) (by omega)) (nIat (by omega) (hu i (by omega))) ?_
        refine sw_ifeq (tgt := 44) dX9_greatest_16 (by decide) (fun hb => ?_) (fun hb => ?_)
        · refine sw_iload_n dX9_greatest_44 rfl ?_
          exact step _ (by rw [hvy, if_neg (bz_eq0.mp hb)])
        · refine sw_aload_n dX9_greatest_19 rfl ?_
          refine sw_getf dX9_greatest_20 fl_X9_7 (h5) rfl ?_
          refine sw_bipush (v := 13) dX9_greatest_23 (by decide) ?_
          refine sw_iload_n dX9_greatest_25 rfl ?_
          refine sw_iadd dX9_greatest_26 ?_
          refine sw_iald dX9_greatest_27 (h6) (wi (ix2 (a := 13)) (by omega) (by omega)) (wv (ix2 (a := 13)) (by omega) (hF i (by omega)).2) ?_
          refine sw_iload_n dX9_greatest_28 rfl ?_
          refine sw_cmple (tgt := 44) dX9_greatest_29 (by decide) (fun hl => ?_) (fun hl => ?_)
          · refine sw_iload_n dX9_greatest_44 rfl ?_
            exact step _ (by rw [hvy, if_pos (bz_eq1.mp hb), if_neg (fun q => by have a := Int32.le_iff_toInt_le.mp hl; have b := Int32.lt_iff_toInt_lt.mp q; omega)])
          · refine sw_aload_n dX9_greatest_32 rfl ?_
            refine sw_getf dX9_greatest_33 fl_X9_7 (h5) rfl ?_
            refine sw_bipush (v := 13) dX9_greatest_36 (by decide) ?_
            refine sw_iload_n dX9_greatest_38 rfl ?_
            refine sw_iadd dX9_greatest_39 ?_
            refine sw_iald dX9_greatest_40 (h6) (wi (ix2 (a := 13)) (by omega) (by omega)) (wv (ix2 (a := 13)) (by omega) (hF i (by omega)).2) ?_
            refine sw_goto (tgt := 45) dX9_greatest_41 (by decide) ?_
            exact step _ (by rw [hvy, if_pos (bz_eq1.mp hb), if_pos (by have a := mt Int32.le_iff_toInt_le.mpr hl; exact Int32.lt_iff_toInt_lt.mpr (by omega))])
  refine sw_iconst (v := 0) dX9_greatest_0 (by decide) ?_
  refine sw_istore_n dX9_greatest_1 (by decide) rfl ?_
  refine sw_iconst (v := 0) dX9_greatest_2 (by decide) ?_
  refine sw_istore_n dX9_greatest_3 (by decide) rfl ?_
  exact loop 8 0 (by omega)
def SameY (h h' : AH) : Prop := h'.length = h.length ∧ ∀ j, j ≠ 78 → j ≠ 81 → j ≠ 82 → h'[j]? = h[j]?
theorem SameY.rf {h : AH} : SameY h h := ⟨rfl, fun _ _ _ _ => rfl⟩
theorem SameY.tr {h h1 h2 : AH} (x : SameY h h1) (y : SameY h1 h2) : SameY h h2 := ⟨y.1.trans x.1, fun j p q r => (y.2 j p q r).trans (x.2 j p q r)⟩
theorem rnd_0 {p n m : Nat} {hv : Int32} {wt sk : Nat → Int32} {S : TS} (h : S.2.2.2 = 0) : ∀ c, rnd p n hv m wt sk c S = S := by
  intro c
  cases c with
  | zero => rfl
  | succ c => unfold rnd; rw [if_pos h]
theorem inn_0 {p m : Nat} {hv : Int32} {wt sk : Nat → Int32} {S : TS} (h : S.2.2.2 = 0) : ∀ c b, inn p hv m wt sk c b S = S := by
  intro c b
  cases c with
  | zero => rfl
  | succ c => unfold inn; rw [if_pos h]
theorem inn_1 {p n m b : Nat} {hv : Int32} {wt sk : Nat → Int32} {S : TS} (h : ¬ S.2.2.2 = 0) (hm : ∀ b, m.testBit b = true → b < n) : inn p hv m wt sk (n - b) b S = inn p hv m wt sk (n - (b + 1)) (b + 1) (vis p hv m wt sk b S) := by
  by_cases hb : b < n
  · rw [show n - b = (n - (b + 1)) + 1 by omega, inn, if_neg h]
  · rw [show n - b = 0 by omega, show n - (b + 1) = 0 by omega, inn, inn]
    unfold vis
    rw [if_neg (fun q => hb (hm b q))]
/-- the reference lays the class's table -/
theorem n_lays {G : SG} {d n m p : Nat} {h : AH} {v : MV} {f ks wt t0 c0 x0 : Nat → Int32} (h5 : MoAt h v) (h6 : RoAt h f) (hF : KW f ks wt) (hU : UpAt h m) (hm : ∀ b, m.testBit b = true → b < n) (hn : n ≤ 8) (hw : wtOk n m wt) (hp : p ∈ szN) (e78 : h[78]? = some (.inl (0, 97, .inl t0))) (e81 : h[81]? = some (.inl (0, 8, .inl c0))) (e82 : h[82]? = some (.inl (0, 8, .inl x0))) : SW G mX9_lays (d + 3) 0 0 0 [.ref 75, .int (nI p), .retAddr 0, .retAddr 0, .retAddr 0] [] h (fun r h' => r = none ∧ SameY h h' ∧ (∃ t, h'[78]? = some (.inl (0, 97, .inl t)) ∧ ∀ j, j < p → t j = tbl p n m ks wt j) ∧ (∃ t, h'[81]? = some (.inl (0, 8, .inl t))) ∧ ∃ t, h'[82]? = some (.inl (0, 8, .inl t))) := by
  have hp2 := szN_rg p hp
  obtain ⟨H, hH9, hHe, hup, hex, hz⟩ := hvy_N n hw
  have hH8 : hvy m wt 8 = nI H := by
    rw [← hHe, show (8 : Nat) = n + (8 - n) by omega]
    exact hvy_ge hm _
  -- the end
  have done : ∀ (g : AH) (i : Nat) (laid : Nat → Int32), SameY h g → g[78]? = some (.inl (0, 97, .inl laid)) → (∀ j, j < p → laid j = tbl p n m ks wt j) → (∃ t, g[81]? = some (.inl (0, 8, .inl t))) → (∃ t, g[82]? = some (.inl (0, 8, .inl t))) → SW G mX9_lays (d + 3) 0 0 66 [.ref 75, .int (nI p), .int (nI H), .int 0, .int (nI i)] [] g (fun r h' => r = none ∧ SameY h h' ∧ (∃ t, h'[78]? = some (.inl (0, 97, .inl t)) ∧ ∀ j, j < p → t j = tbl p n m ks wt j) ∧ (∃ t, h'[81]? = some (.inl (0, 8, .inl t))) ∧ ∃ t, h'[82]? = some (.inl (0, 8, .inl t))) := by
    intro g i laid hS e78 ht e81 e82
    refine sw_iload_n dX9_lays_66 rfl ?_
    refine sw_ifle (tgt := 144) dX9_lays_67 (by decide) (fun hc => ?_) (fun hc => ?_)
    · exact sw_return dX9_lays_144 rfl (⟨rfl, hS, ⟨laid, e78, ht⟩, e81, e82⟩)
    · exact absurd (by decide) hc
  -- the visits
  have loop : ∀ (hb : Nat), hb < n → m.testBit hb = true → wt hb = nI H → 0 < H → ∀ (N c b : Nat) (S : TS) (g : AH) (laid cr nx : Nat → Int32), 8 * c + (8 - b) = N → b < 8 → S.2.2.2 ≤ c + (if b ≤ hb then 1 else 0) → S.2.2.2 ≤ p → (∀ j, j < p → (rnd p n (nI H) m wt (skU p n m ks) c (inn p (nI H) m wt (skU p n m ks) (n - b) b S)).1 j = tbl p n m ks wt j) → TM p n m ks H S laid cr nx → SameY h g → g[78]? = some (.inl (0, 97, .inl laid)) → g[81]? = some (.inl (0, 8, .inl cr)) → g[82]? = some (.inl (0, 8, .inl nx)) → SW G mX9_lays (d + 3) 0 0 66 [.ref 75, .int (nI p), .int (nI H), .int (nI S.2.2.2), .int (nI b)] [] g (fun r h' => r = none ∧ SameY h h' ∧ (∃ t, h'[78]? = some (.inl (0, 97, .inl t)) ∧ ∀ j, j < p → t j = tbl p n m ks wt j) ∧ (∃ t, h'[81]? = some (.inl (0, 8, .inl t))) ∧ ∃ t, h'[82]? = some (.inl (0, 8, .inl t))) := by
    intro hb hbn hbbit hbw hH0 N
    induction N with
    | zero => intro c b S g laid cr nx hN hb8; omega
    | succ N ih =>
      intro c b S g laid cr nx hN hb8 hle hlp hfin hT hS e78 e81 e82
      by_cases hl : S.2.2.2 = 0
      · rw [hl]
        refine done g b laid hS e78 (fun j hj => ?_) ⟨_, e81⟩ ⟨_, e82⟩
        rw [hT.1 j hj, ← hfin j hj, inn_0 hl, rnd_0 hl]
      · have h5 : MoAt g v := (hS.2 75 (by omega) (by omega) (by omega)).trans h5
        have h6 : RoAt g f := (hS.2 76 (by omega) (by omega) (by omega)).trans h6
        obtain ⟨u, h80, hu⟩ := hU
        have h80 := (hS.2 80 (by omega) (by omega) (by omega)).trans h80
        -- behind a visit
        have next : ∀ (S' : TS) (g : AH) (laid cr nx : Nat → Int32), vis p (nI H) m wt (skU p n m ks) b S = S' → S'.2.2.2 ≤ S.2.2.2 → (b = hb → S'.2.2.2 + 1 = S.2.2.2) → TM p n m ks H S' laid cr nx → SameY h g → g[78]? = some (.inl (0, 97, .inl laid)) → g[81]? = some (.inl (0, 8, .inl cr)) → g[82]? = some (.inl (0, 8, .inl nx)) → SW G mX9_lays (d + 3) 0 0 132 [.ref 75, .int (nI p), .int (nI H), .int (nI S'.2.2.2), .int (nI b)] [] g (fun r h' => r = none ∧ SameY h h' ∧ (∃ t, h'[78]? = some (.inl (0, 97, .inl t)) ∧ ∀ j, j < p → t j = tbl p n m ks wt j) ∧ (∃ t, h'[81]? = some (.inl (0, 8, .inl t))) ∧ ∃ t, h'[82]? = some (.inl (0, 8, .inl t))) := by
          intro S' g laid cr nx hv hle' hb1 hT hS e78 e81 e82
          rw [inn_1 hl hm, hv] at hfin
          refine sw_iload dX9_lays_132 rfl ?_
          refine sw_iconst (v := 1) dX9_lays_134 (by decide) ?_
          refine sw_iadd dX9_lays_135 ?_
          refine sw_bipush (v := 8) dX9_lays_136 (by decide) ?_
          refine sw_irem dX9_lays_138 (by decide) ?_
          rw [nI_1, show nI (b + 1) - nI (b + 1) / 8 * 8 = nI ((b + 1) % 8) from pk_rem (d := 8) (by omega) (by omega) (by omega)]
          refine sw_istore dX9_lays_139 (by decide) rfl ?_
          refine sw_goto (tgt := 66) dX9_lays_141 (by decide) ?_
          by_cases hl' : S'.2.2.2 = 0
          · rw [hl']
            refine done g _ laid hS e78 (fun j hj => ?_) ⟨_, e81⟩ ⟨_, e82⟩
            rw [hT.1 j hj, ← hfin j hj, inn_0 hl', rnd_0 hl']
          · have hle2 : S'.2.2.2 ≤ c + (if b + 1 ≤ hb then 1 else 0) := by
              by_cases h1 : b + 1 ≤ hb
              · rw [if_pos h1]; rw [if_pos (show b ≤ hb by omega)] at hle; omega
              · rw [if_neg h1]
                by_cases h2 : b = hb
                · rw [if_pos (show b ≤ hb by omega)] at hle
                  have := hb1 h2
                  omega
                · rw [if_neg (show ¬ b ≤ hb by omega)] at hle; omega
            by_cases hb7 : b = 7
            · subst hb7
              rw [if_neg (show ¬ 7 + 1 ≤ hb by omega)] at hle2
              obtain ⟨c', rfl⟩ : ∃ c', c = c' + 1 := ⟨c - 1, by omega⟩
              rw [show n - (7 + 1) = 0 by omega, inn, rnd, if_neg hl'] at hfin
              exact ih c' 0 S' g laid cr nx (by omega) (by omega) (by rw [if_pos (Nat.zero_le _)]; omega) (by omega) hfin hT hS e78 e81 e82
            · rw [Nat.mod_eq_of_lt (by omega)]
              exact ih c (b + 1) S' g laid cr nx (by omega) (by omega) hle2 (by omega) hfin hT hS e78 e81 e82
        refine sw_iload_n dX9_lays_66 rfl ?_
        refine sw_ifle (tgt := 144) dX9_lays_67 (by decide) (fun hc => ?_) (fun hc => ?_)
        · exact absurd hc (nI_nle (by omega) (by omega))
        · refine sw_aload_n dX9_lays_70 rfl ?_
          refine sw_getf dX9_lays_71 fl_X9_22 (h5) rfl ?_
          refine sw_iload dX9_lays_74 rfl ?_
          refine sw_zald dX9_lays_76 (h80) (vp_in_nI (by omega) (by omega)) (nIat (by omega) (hu b hb8)) ?_
          refine sw_ifeq (tgt := 132) dX9_lays_77 (by decide) (fun hbit => ?_) (fun hbit => ?_)
          · have hbit := bz_eq0.mp hbit
            exact next S g laid cr nx (by unfold vis; rw [if_neg hbit]) (Nat.le_refl _) (fun q => absurd (q ▸ hbbit) hbit) hT hS e78 e81 e82
          · have hbit := bz_eq1.mp hbit
            have hbn' := hm b hbit
            obtain ⟨kb, kb1, kb9, kbe⟩ := hw b hbn' hbit
            have hkH := hup b hbn' hbit kb kb9 kbe
            obtain ⟨j, k, h1⟩ := hT.2.2 b hbn' hbit
            have hkl : k < H := h1.2.2.2.2.2.2
            have ewt : f (13 + b) = nI kb := (hF b hb8).2.trans kbe
            refine sw_aload_n dX9_lays_80 rfl ?_
            refine sw_getf dX9_lays_81 fl_X9_26 (h5) rfl ?_
            refine sw_iload dX9_lays_84 rfl ?_
            refine sw_dup2 dX9_lays_86 rfl rfl ?_
            refine sw_iald dX9_lays_87 (e81) (vp_in_nI (by omega) (by omega)) (nIat (by omega) h1.2.2.2.2.1) ?_
            refine sw_aload_n dX9_lays_88 rfl ?_
            refine sw_getf dX9_lays_89 fl_X9_7 (h5) rfl ?_
            refine sw_bipush (v := 13) dX9_lays_92 (by decide) ?_
            refine sw_iload dX9_lays_94 rfl ?_
            refine sw_iadd dX9_lays_96 ?_
            refine sw_iald dX9_lays_97 (h6) (wi (ix2 (a := 13)) (by omega) (by omega)) (wv (ix2 (a := 13)) (by omega) ewt) ?_
            refine sw_iadd dX9_lays_98 ?_
            refine sw_iast dX9_lays_99 (e81) (vp_in_nI (by omega) (by omega)) (fun g1 z1 e1 o1 => ?_)
            rw [nIupd (by omega), nI_add] at e1
            have hS1 : SameY h g1 := hS.tr ⟨z1, fun i _ a _ => o1 i a⟩
            have h5 : MoAt g1 v := (o1 75 (by omega)).trans h5
            have h6 : RoAt g1 f := (o1 76 (by omega)).trans h6
            refine sw_aload_n dX9_lays_100 rfl ?_
            refine sw_getf dX9_lays_101 fl_X9_26 (h5) rfl ?_
            refine sw_iload dX9_lays_104 rfl ?_
            refine sw_iald dX9_lays_106 (e1) (vp_in_nI (by omega) (by omega)) (nIat (by omega) upd_at) ?_
            refine sw_iload_n dX9_lays_107 rfl ?_
            refine sw_cmplt (tgt := 132) dX9_lays_108 (by decide) (fun hlt => ?_) (fun hlt => ?_)
            · have hlt := (nI_ltI (by omega) (by omega)).mp hlt
              obtain ⟨ev, hT'⟩ := hT.skip hbn' hbit h1 kbe kb9 hH9 hlt
              have e0 : S.2.2.2 = (vis p (nI H) m wt (skU p n m ks) b S).2.2.2 := by rw [ev]
              rw [e0]
              refine next _ g1 laid _ nx rfl (by rw [ev]; exact Nat.le_refl _) (fun q => ?_) hT' hS1 ((o1 78 (by omega)).trans e78) e1 ((o1 82 (by omega)).trans e82)
              subst q
              rw [kbe] at hbw
              have := (nI_eq (by omega) (by omega)).mp hbw
              omega
            · have hge : H ≤ k + kb := by
                by_cases hq : k + kb < H
                · exact absurd ((nI_ltI (by omega) (by omega)).mpr hq) hlt
                · omega
              refine sw_aload_n dX9_lays_111 rfl ?_
              refine sw_getf dX9_lays_112 fl_X9_26 (h5) rfl ?_
              refine sw_iload dX9_lays_115 rfl ?_
              refine sw_dup2 dX9_lays_117 rfl rfl ?_
              refine sw_iald dX9_lays_118 (e1) (vp_in_nI (by omega) (by omega)) (nIat (by omega) upd_at) ?_
              refine sw_iload_n dX9_lays_119 rfl ?_
              refine sw_isub dX9_lays_120 ?_
              refine sw_iast dX9_lays_121 (e1) (vp_in_nI (by omega) (by omega)) (fun g2 z2 e2 o2 => ?_)
              rw [nIupd (by omega), upd_upd, pk_sub hge] at e2
              have h5 : MoAt g2 v := (o2 75 (by omega)).trans h5
              have h6 : RoAt g2 f := (o2 76 (by omega)).trans h6
              have e78' := ((o2 78 (by omega)).trans (o1 78 (by omega))).trans e78
              have e82' := ((o2 82 (by omega)).trans (o1 82 (by omega))).trans e82
              obtain ⟨j', hjj, hj', hfr, hfi⟩ := fst_free (t := S.1) (o := oN ks p b) (s := sN ks p b) (j := j) hp skpN_pos (skpN_lt (by omega)) (cntS_ex p (by rw [hT.2.1]; omega)) h1.2.2.1
              obtain ⟨el, hT'⟩ := hT.take (by omega) (by omega) hn hbn' hbit h1 kbe hkH hH9 hge hjj hj' hfr hfi
              have eo : offN (f (5 + b)) p = oN ks p b := by rw [(hF b hb8).1]; rfl
              have es : skpN (f (5 + b)) p = sN ks p b := by rw [(hF b hb8).1]; rfl
              have hsl : ∀ i, slt (oN ks p b) (sN ks p b) p i < p := fun i => slt_lt (by omega)
              refine sw_aload_n dX9_lays_122 rfl ?_
              refine sw_iload dX9_lays_123 rfl ?_
              refine sw_iload_n dX9_lays_125 rfl ?_
              refine sw_cv2 dX9_lays_126 cv_X9_63 (rc_of h5 rfl) (n_takes (b := b) (p := p) (j := j) (j' := j') h5 h6 e78' e82' hb8 (by omega) (by omega) h1.1 hjj hj' (by rw [eo, es, hT.1 _ (hsl _)]; exact hfr) (by rw [eo, es]; intro i hi; rw [hT.1 _ (hsl _)]; exact hfi i hi)) (fun r g3 hr => ?_)
              obtain ⟨rfl, z3, q78, q82, o3⟩ := hr
              rw [eo, es] at q78
              have hS3 : SameY h g3 := hS.tr ⟨z3.trans (z2.trans z1), fun i a b c => (o3 i a c).trans ((o2 i b).trans (o1 i b))⟩
              refine sw_iinc (v := nI (S.2.2.2 - 1)) dX9_lays_129 rfl (sb_m1 (by omega)) (by decide) rfl ?_
              rw [← el]
              exact next _ g3 _ _ _ rfl (by rw [el]; omega) (fun _ => by rw [el]; omega) hT' hS3 q78 ((o3 81 (by omega) (by omega)).trans e2) q82
  -- before them
  have start : ∀ (g : AH) (i : Nat) (cr nx : Nat → Int32), i = 8 → SameY h g → g[78]? = some (.inl (0, 97, .inl (filT t0 p))) → g[81]? = some (.inl (0, 8, .inl cr)) → g[82]? = some (.inl (0, 8, .inl nx)) → (∀ j, j < 8 → cr j = 0 ∧ nx j = 0) → SW G mX9_lays (d + 3) 0 0 48 [.ref 75, .int (nI p), .int (nI i), .retAddr 0, .retAddr 0] [] g (fun r h' => r = none ∧ SameY h h' ∧ (∃ t, h'[78]? = some (.inl (0, 97, .inl t)) ∧ ∀ j, j < p → t j = tbl p n m ks wt j) ∧ (∃ t, h'[81]? = some (.inl (0, 8, .inl t))) ∧ ∃ t, h'[82]? = some (.inl (0, 8, .inl t))) := by
    intro g i cr nx hi hS e78 e81 e82 h00
    have h5 : MoAt g v := (hS.2 75 (by omega) (by omega) (by omega)).trans h5
    have h6 : RoAt g f := (hS.2 76 (by omega) (by omega) (by omega)).trans h6
    have hU' : UpAt g m := by
      obtain ⟨u, h80, hu⟩ := hU
      exact ⟨u, (hS.2 80 (by omega) (by omega) (by omega)).trans h80, hu⟩
    refine sw_aload_n dX9_lays_48 rfl ?_
    refine sw_pcv0 dX9_lays_49 cv_X9_59 (rc_of h5 rfl) (n_greatest h5 h6 hF hU') ?_
    rw [hH8]
    have htb : ∀ j, tbl p n m ks wt j = (rnd p n (nI H) m wt (skU p n m ks) p (filT (fun _ => 0) p, setU m n (fun j => offI (ks j) (nI p)) (fun _ => 0), setU m n (fun _ => 0) (fun _ => 0), if nI H = 0 then 0 else p)).1 j := by
      intro j
      unfold tbl mkS
      rw [hHe]
      rfl
    refine sw_istore_n dX9_lays_52 (by decide) rfl ?_
    refine sw_iload_n dX9_lays_53 rfl ?_
    refine sw_ifne (tgt := 61) dX9_lays_54 (by decide) (fun hH => ?_) (fun hH => ?_)
    · have hH0 : 0 < H := by
        rcases Nat.eq_zero_or_pos H with z | z
        · subst z; exact absurd rfl hH
        · exact z
      obtain ⟨hb, hbn, hbbit, hbw⟩ := hex hH0
      rw [if_neg hH] at htb
      refine sw_iload_n dX9_lays_61 rfl ?_
      refine sw_istore_n dX9_lays_62 (by decide) rfl ?_
      refine sw_iconst (v := 0) dX9_lays_63 (by decide) ?_
      refine sw_istore dX9_lays_64 (by decide) rfl ?_
      have hT0 : TM p n m ks H (filT (fun _ => 0) p, setU m n (fun j => offI (ks j) (nI p)) (fun _ => 0), setU m n (fun _ => 0) (fun _ => 0), p) (filT t0 p) cr nx := by
        refine ⟨fun j hj => ?_, cntS_fil _ p p (Nat.le_refl _), fun b hb hbit => ⟨0, 0, (h00 b (by omega)).2, ?_, fun i hi => by omega, by omega, (h00 b (by omega)).1, ?_, hH0⟩⟩
        · show filT t0 p j = filT (fun _ => 0) p j
          rw [filT, filT, if_pos hj, if_pos hj]
        · show setU m n (fun j => offI (ks j) (nI p)) (fun _ => 0) b = _
          rw [setU, if_pos ⟨hb, hbit⟩, offI_N (by omega) (by omega)]
          unfold slt oN
          rw [Nat.zero_mul, Nat.add_zero, Nat.mod_eq_of_lt (offN_lt (by omega))]
        · show setU m n (fun _ => 0) (fun _ => 0) b = _
          rw [setU, if_pos ⟨hb, hbit⟩]
          rfl
      obtain ⟨p', hpe⟩ : ∃ p', p = p' + 1 := ⟨p - 1, by omega⟩
      refine loop hb hbn hbbit hbw hH0 (8 * (p - 1) + 8) (p - 1) 0 (filT (fun _ => 0) p, setU m n (fun j => offI (ks j) (nI p)) (fun _ => 0), setU m n (fun _ => 0) (fun _ => 0), p) g (filT t0 p) cr nx (by omega) (by omega) ?_ (Nat.le_refl _) (fun j hj => ?_) hT0 hS e78 e81 e82
      · rw [if_pos (Nat.zero_le _)]
        show p ≤ p - 1 + 1
        omega
      · rw [htb j]
        conv => rhs; arg 1; rw [show rnd p n (nI H) m wt (skU p n m ks) p = rnd p n (nI H) m wt (skU p n m ks) (p - 1 + 1) by rw [show p - 1 + 1 = p by omega]]
        rw [rnd, if_neg (by show ¬ p = 0; omega)]
        rfl
    · have hH0 : H = 0 := (nI_eq (b := 0) (by omega) (by omega)).mp hH
      rw [if_pos hH] at htb
      refine sw_iconst (v := 0) dX9_lays_57 (by decide) ?_
      refine sw_goto (tgt := 62) dX9_lays_58 (by decide) ?_
      refine sw_istore_n dX9_lays_62 (by decide) rfl ?_
      refine sw_iconst (v := 0) dX9_lays_63 (by decide) ?_
      refine sw_istore dX9_lays_64 (by decide) rfl ?_
      refine done g 0 (filT t0 p) hS e78 (fun j hj => ?_) ⟨_, e81⟩ ⟨_, e82⟩
      rw [htb j, rnd_0 rfl]
      show filT t0 p j = filT (fun _ => 0) p j
      rw [filT, filT, if_pos hj, if_pos hj]
  have zero : ∀ (c i : Nat) (g : AH) (cr nx : Nat → Int32), i + c = 8 → SameY h g → g[78]? = some (.inl (0, 97, .inl (filT t0 p))) → g[81]? = some (.inl (0, 8, .inl cr)) → g[82]? = some (.inl (0, 8, .inl nx)) → (∀ j, j < i → cr j = 0 ∧ nx j = 0) → SW G mX9_lays (d + 3) 0 0 22 [.ref 75, .int (nI p), .int (nI i), .retAddr 0, .retAddr 0] [] g (fun r h' => r = none ∧ SameY h h' ∧ (∃ t, h'[78]? = some (.inl (0, 97, .inl t)) ∧ ∀ j, j < p → t j = tbl p n m ks wt j) ∧ (∃ t, h'[81]? = some (.inl (0, 8, .inl t))) ∧ ∃ t, h'[82]? = some (.inl (0, 8, .inl t))) := by
    intro c
    induction c with
    | zero =>
      intro i g cr nx hi hS e78 e81 e82 h00
      have : i = 8 := by omega
      subst this
      refine sw_iload_n dX9_lays_22 rfl ?_
      refine sw_bipush (v := 8) dX9_lays_23 (by decide) ?_
      refine sw_cmpge (tgt := 48) dX9_lays_25 (by decide) (fun hc => ?_) (fun hc => ?_)
      · exact start g 8 cr nx rfl hS e78 e81 e82 h00
      · exact absurd (nI_le (a := 8) (b := 8) (Nat.le_refl _) (by omega)) hc
    | succ c ih =>
      intro i g cr nx hi hS e78 e81 e82 h00
      have h5 : MoAt g v := (hS.2 75 (by omega) (by omega) (by omega)).trans h5
      refine sw_iload_n dX9_lays_22 rfl ?_
      refine sw_bipush (v := 8) dX9_lays_23 (by decide) ?_
      refine sw_cmpge (tgt := 48) dX9_lays_25 (by decide) (fun hc => ?_) (fun hc => ?_)
      · exact absurd hc (nI_ge (b := 8) (by omega) (by omega))
      · refine sw_aload_n dX9_lays_28 rfl ?_
        refine sw_getf dX9_lays_29 fl_X9_26 (h5) rfl ?_
        refine sw_iload_n dX9_lays_32 rfl ?_
        refine sw_iconst (v := 0) dX9_lays_33 (by decide) ?_
        refine sw_iast dX9_lays_34 (e81) (vp_in_nI (by omega) (by omega)) (fun g1 z1 e1 o1 => ?_)
        rw [nIupd (by omega)] at e1
        have h5 : MoAt g1 v := (o1 75 (by omega)).trans h5
        refine sw_aload_n dX9_lays_35 rfl ?_
        refine sw_getf dX9_lays_36 fl_X9_29 (h5) rfl ?_
        refine sw_iload_n dX9_lays_39 rfl ?_
        refine sw_iconst (v := 0) dX9_lays_40 (by decide) ?_
        refine sw_iast dX9_lays_41 ((o1 82 (by omega)).trans e82) (vp_in_nI (by omega) (by omega)) (fun g2 z2 e2 o2 => ?_)
        rw [nIupd (by omega)] at e2
        refine sw_iinc (v := nI (i + 1)) dX9_lays_42 rfl (nI_1 i) (by decide) rfl ?_
        refine sw_goto (tgt := 22) dX9_lays_45 (by decide) ?_
        refine ih (i + 1) g2 _ _ (by omega) (hS.tr ⟨z2.trans z1, fun j a b c => (o2 j c).trans (o1 j b)⟩) (((o2 78 (by omega)).trans (o1 78 (by omega))).trans e78) ((o2 81 (by omega)).trans e1) e2 (fun j hj => ?_)
        by_cases hji : j = i
        · subst hji; exact ⟨upd_at, upd_at⟩
        · rw [upd_ne hji, upd_ne hji]; exact h00 j (by omega)
  have fill : ∀ (c i : Nat) (g : AH), i + c = p → SameY h g → g[81]? = some (.inl (0, 8, .inl c0)) → g[82]? = some (.inl (0, 8, .inl x0)) → g[78]? = some (.inl (0, 97, .inl (filT t0 i))) → SW G mX9_lays (d + 3) 0 0 2 [.ref 75, .int (nI p), .int (nI i), .retAddr 0, .retAddr 0] [] g (fun r h' => r = none ∧ SameY h h' ∧ (∃ t, h'[78]? = some (.inl (0, 97, .inl t)) ∧ ∀ j, j < p → t j = tbl p n m ks wt j) ∧ (∃ t, h'[81]? = some (.inl (0, 8, .inl t))) ∧ ∃ t, h'[82]? = some (.inl (0, 8, .inl t))) := by
    intro c
    induction c with
    | zero =>
      intro i g hi hS q81 q82 q78
      have : i = p := by omega
      subst this
      refine sw_iload_n dX9_lays_2 rfl ?_
      refine sw_iload_n dX9_lays_3 rfl ?_
      refine sw_cmpge (tgt := 20) dX9_lays_4 (by decide) (fun hc => ?_) (fun hc => ?_)
      · refine sw_iconst (v := 0) dX9_lays_20 (by decide) ?_
        refine sw_istore_n dX9_lays_21 (by decide) rfl ?_
        exact zero 8 0 g c0 x0 (by omega) hS q78 q81 q82 (fun j hj => by omega)
      · exact absurd (nI_le (Nat.le_refl _) (by omega)) hc
    | succ c ih =>
      intro i g hi hS q81 q82 q78
      have h5 : MoAt g v := (hS.2 75 (by omega) (by omega) (by omega)).trans h5
      refine sw_iload_n dX9_lays_2 rfl ?_
      refine sw_iload_n dX9_lays_3 rfl ?_
      refine sw_cmpge (tgt := 20) dX9_lays_4 (by decide) (fun hc => ?_) (fun hc => ?_)
      · exact absurd hc (nI_ge (by omega) (by omega))
      · refine sw_aload_n dX9_lays_7 rfl ?_
        refine sw_getf dX9_lays_8 fl_X9_16 (h5) rfl ?_
        refine sw_iload_n dX9_lays_11 rfl ?_
        refine sw_iconst (v := (-1)) dX9_lays_12 (by decide) ?_
        refine sw_iast dX9_lays_13 (q78) (vp_in_nI (by omega) (by omega)) (fun g1 z1 e1 o1 => ?_)
        rw [nIupd (by omega), filT_step] at e1
        refine sw_iinc (v := nI (i + 1)) dX9_lays_14 rfl (nI_1 i) (by decide) rfl ?_
        refine sw_goto (tgt := 2) dX9_lays_17 (by decide) ?_
        exact ih (i + 1) g1 (by omega) (hS.tr ⟨z1, fun j a b c => o1 j a⟩) ((o1 81 (by omega)).trans q81) ((o1 82 (by omega)).trans q82) e1
  refine sw_iconst (v := 0) dX9_lays_0 (by decide) ?_
  refine sw_istore_n dX9_lays_1 (by decide) rfl ?_
  exact fill p 0 h (by omega) SameY.rf e81 e82 (by rw [filT_0]; exact e78)
