abbrev K3 : Type := Nat × Nat × Nat
def advK (tp : Nat → Int32) (n : Nat) (K : K3) : K3 := (tkK tp n K.2.2, tkP tp n K.2.2, tkT tp n K.2.2)
def kOk (n : Nat) (K : K3) : Prop := K.2.1 ≤ K.2.2 ∧ K.2.2 ≤ n
theorem advK_ok {tp : Nat → Int32} {n : Nat} {K : K3} (h : kOk n K) : kOk n (advK tp n K) := ⟨(tkT_rg h.2).1, (tkT_rg h.2).2.1⟩
theorem tkK_le (tp : Nat → Int32) (n T : Nat) : tkK tp n T ≤ 5 := by
  have := kindF_le tp n (tkP tp n T)
  unfold tkK tkK0; split <;> omega
def TelK (h : AH) (fo : Int32) (vb : Nat) (K : K3) (nm : Nat → Int32) : Prop := TelAt h fo vb K.1 K.2.1 K.2.2 nm ∧ K.1 ≤ 5
/-- the word k stands here -/
def cmW (tp : Nat → Int32) (P k : Nat) : Nat → Nat → Bool
  | 0, _ => true
  | c + 1, i => if tp (P + i) = sbc k i then cmW tp P k c (i + 1) else false
def isWd (tp : Nat → Int32) (K : K3) (k : Nat) : Bool := if K.1 = 2 ∧ K.2.2 - K.2.1 = sbl k then cmW tp K.2.1 k (sbl k) 0 else false
theorem m_adv {G : SG} {d n vb : Nat} {h : AH} {tp nm : Nat → Int32} {fo : Int32} {K : K3} (hT : TapeAt h tp n) (hL : TelK h fo vb K nm) (hK : kOk n K) : SW G mX5_advance (d + 1) 0 0 0 [.ref 73] [] h (fun r h' => r = none ∧ TelK h' fo vb (advK tp n K) nm ∧ SameL h h') :=
  (m_advance hT hL.1 hK.2).mono (fun _ _ q => ⟨q.1, ⟨q.2.1, tkK_le _ _ _⟩, q.2.2⟩)
theorem subN {a b : Nat} (h : b ≤ a) : nI a - nI b = nI (a - b) := by
  have := nI_add (a - b) b
  rw [show a - b + b = a by omega] at this
  rw [← this]
  exact Int32.add_sub_cancel _ _
theorem m_takes {G : SG} {d n vb k : Nat} {h : AH} {tp nm : Nat → Int32} {fo : Int32} {K : K3} (hk : k < 22) (hT : TapeAt h tp n) (hL : TelK h fo vb K nm) (hK : kOk n K) : SW G mX5_takes (d + 4) 0 0 0 [.ref 73, .ref (1010 + k), .retAddr 0] [] h (fun r h' => r = some (.int (bz (isWd tp K k = true))) ∧ TelK h' fo vb (if isWd tp K k = true then advK tp n K else K) nm ∧ SameL h h') := by
  obtain ⟨⟨h73, h74, hvb⟩, hK5⟩ := id hL
  have hn := hT.2.2
  have h32 := (sb_shr k hk).2
  have hPT : K.2.1 ≤ K.2.2 := hK.1
  have hTn : K.2.2 ≤ n := hK.2
  have no : isWd tp K k = false → SW G mX5_takes (d + 4) 0 0 24 [.ref 73, .ref (1010 + k), .retAddr 0] [] h (fun r h' => r = some (.int (bz (isWd tp K k = true))) ∧ TelK h' fo vb (if isWd tp K k = true then advK tp n K else K) nm ∧ SameL h h') := by
    intro hq
    rw [hq]
    refine sw_iconst (v := 0) dX5_takes_24 (by decide) ?_
    exact sw_ireturn dX5_takes_25 rfl rfl (⟨rfl, hL, SameL.rf⟩)
  refine sw_aload_n dX5_takes_0 rfl ?_
  refine sw_getf dX5_takes_1 fl_X5_28 (h73) rfl ?_
  refine sw_iconst (v := 2) dX5_takes_4 (by decide) ?_
  refine sw_cmpne (tgt := 24) dX5_takes_5 (by decide) (fun h2 => ?_) (fun h2 => ?_)
  · exact no (by unfold isWd; rw [if_neg (fun q => h2 (by rw [q.1]; rfl))])
  · have hk2 : K.1 = 2 := (nI_eq (b := 2) (by omega) (by omega)).mp h2
    refine sw_aload_n dX5_takes_8 rfl ?_
    refine sw_getf dX5_takes_9 fl_X5_34 (h73) rfl ?_
    refine sw_aload_n dX5_takes_12 rfl ?_
    refine sw_getf dX5_takes_13 fl_X5_31 (h73) rfl ?_
    refine sw_isub dX5_takes_16 ?_
    rw [subN hPT]
    refine sw_aload_n dX5_takes_17 rfl ?_
    refine sw_cv0 dX5_takes_18 cv_X5_64 (Or.inr (sb_cls k hk)) (m_length hk) (fun r g hr => ?_)
    obtain ⟨rfl, rfl⟩ := hr
    refine sw_cmpeq (tgt := 26) dX5_takes_21 (by decide) (fun hl => ?_) (fun hl => ?_)
    · have hlen : K.2.2 - K.2.1 = sbl k := (nI_eq (by omega) (by omega)).mp hl
      have hw : isWd tp K k = cmW tp K.2.1 k (sbl k) 0 := by unfold isWd; rw [if_pos ⟨hk2, hlen⟩]
      rw [hw]
      have loop : ∀ (c i : Nat), i + c = sbl k → cmW tp K.2.1 k c i = cmW tp K.2.1 k (sbl k) 0 → SW G mX5_takes (d + 4) 0 0 28 [.ref 73, .ref (1010 + k), .int (nI i)] [] g (fun r h' => r = some (.int (bz (cmW tp K.2.1 k (sbl k) 0 = true))) ∧ TelK h' fo vb (if cmW tp K.2.1 k (sbl k) 0 = true then advK tp n K else K) nm ∧ SameL g h') := by
        intro c
        induction c with
        | zero =>
          intro i hi he
          refine sw_iload_n dX5_takes_28 rfl ?_
          refine sw_aload_n dX5_takes_29 rfl ?_
          refine sw_cv0 dX5_takes_30 cv_X5_64 (Or.inr (sb_cls k hk)) (m_length hk) (fun r g1 hr => ?_)
          obtain ⟨rfl, rfl⟩ := hr
          refine sw_cmpge (tgt := 66) dX5_takes_33 (by decide) (fun hg => ?_) (fun hg => ?_)
          · rw [← he, cmW]
            refine sw_aload_n dX5_takes_66 rfl ?_
            refine sw_cv0 dX5_takes_67 cv_X5_41 (rc_of h73 rfl) (m_adv hT hL hK) (fun r g2 hr => ?_)
            obtain ⟨rfl, hL2, hS2⟩ := hr
            refine sw_iconst (v := 1) dX5_takes_70 (by decide) ?_
            exact sw_ireturn dX5_takes_71 rfl rfl (⟨rfl, hL2, hS2⟩)
          · exact absurd (nI_le (by omega) (by omega)) hg
        | succ c ih =>
          intro i hi he
          refine sw_iload_n dX5_takes_28 rfl ?_
          refine sw_aload_n dX5_takes_29 rfl ?_
          refine sw_cv0 dX5_takes_30 cv_X5_64 (Or.inr (sb_cls k hk)) (m_length hk) (fun r g1 hr => ?_)
          obtain ⟨rfl, rfl⟩ := hr
          refine sw_cmpge (tgt := 66) dX5_takes_33 (by decide) (fun hg => ?_) (fun hg => ?_)
          · exact absurd hg (nI_ge (by omega) (by omega))
          · refine sw_aload_n dX5_takes_36 rfl ?_
            refine sw_getf dX5_takes_37 fl_X5_37 (h73) rfl ?_
            refine sw_getf dX5_takes_40 fl_X5_111 (hT.1) rfl ?_
            refine sw_aload_n dX5_takes_43 rfl ?_
            refine sw_getf dX5_takes_44 fl_X5_31 (h73) rfl ?_
            refine sw_iload_n dX5_takes_47 rfl ?_
            refine sw_iadd dX5_takes_48 ?_
            rw [nI_add]
            refine sw_iald dX5_takes_49 (hT.2.1) (vp_in_nI (by omega) (by omega)) (nIat (by omega) rfl) ?_
            refine sw_aload_n dX5_takes_50 rfl ?_
            refine sw_iload_n dX5_takes_51 rfl ?_
            refine sw_cv1 dX5_takes_52 cv_X5_70 (Or.inr (sb_cls k hk)) (m_charAt hk (show i < sbl k by omega)) (fun r g2 hr => ?_)
            obtain ⟨rfl, rfl⟩ := hr
            refine sw_cmpeq (tgt := 60) dX5_takes_55 (by decide) (fun hq => ?_) (fun hq => ?_)
            · refine sw_iinc (v := nI (i + 1)) dX5_takes_60 rfl (nI_1 i) (by decide) rfl ?_
              refine sw_goto (tgt := 28) dX5_takes_63 (by decide) ?_
              exact ih (i + 1) (by omega) (by rw [cmW, if_pos hq] at he; exact he)
            · rw [cmW, if_neg hq] at he
              rw [← he]
              refine sw_iconst (v := 0) dX5_takes_58 (by decide) ?_
              exact sw_ireturn dX5_takes_59 rfl rfl (⟨rfl, hL, SameL.rf⟩)
      refine sw_iconst (v := 0) dX5_takes_26 (by decide) ?_
      refine sw_istore_n dX5_takes_27 (by decide) rfl ?_
      exact loop (sbl k) 0 (by omega) rfl
    · exact no (by unfold isWd; rw [if_neg (fun q => hl (by rw [q.2]))])
/-- which word begins a statement -/
def vrb (tp : Nat → Int32) (K : K3) : Nat → Nat → Option Nat
  | 0, _ => none
  | c + 1, v => if isWd tp K (6 + 2 * v) = true then some v else vrb tp K c (v + 1)
theorem vrb_lt {tp : Nat → Int32} {K : K3} : ∀ (c v x : Nat), vrb tp K c v = some x → x < v + c := by
  intro c
  induction c with
  | zero => intro v x h; cases h
  | succ c ih =>
    intro v x h
    unfold vrb at h
    split at h
    · cases h; omega
    · have := ih (v + 1) x h; omega
theorem m_takesVerb {G : SG} {d n vb : Nat} {h : AH} {tp nm : Nat → Int32} {fo : Int32} {K : K3} (hT : TapeAt h tp n) (hL : TelK h fo vb K nm) (hK : kOk n K) : SW G mX5_takesVerb (d + 5) 0 0 0 [.ref 73, .retAddr 0] [] h (fun r h' => (match vrb tp K 8 0 with
    | none => r = some (.int 0) ∧ TelK h' fo vb K nm
    | some v => r = some (.int 1) ∧ TelK h' fo v (advK tp n K) nm) ∧ SameL h h') := by
  have loop : ∀ (c v : Nat) (g : AH), v + c = 8 → vrb tp K c v = vrb tp K 8 0 → TelK g fo vb K nm → SameL h g → SW G mX5_takesVerb (d + 5) 0 0 2 [.ref 73, .int (nI v)] [] g (fun r h' => (match vrb tp K 8 0 with
    | none => r = some (.int 0) ∧ TelK h' fo vb K nm
    | some v => r = some (.int 1) ∧ TelK h' fo v (advK tp n K) nm) ∧ SameL h h') := by
    intro c
    induction c with
    | zero =>
      intro v g hv he hL hS
      have : v = 8 := by omega
      subst this
      refine sw_iload_n dX5_takesVerb_2 rfl ?_
      refine sw_gets (v := .ref 1080) dX5_takesVerb_3 w_277 (by decide +kernel) ?_
      refine sw_alenR (v := 8) dX5_takesVerb_6 (vbs_mem) (by decide) ?_
      refine sw_cmpge (tgt := 42) dX5_takesVerb_7 (by decide) (fun hc => ?_) (fun hc => ?_)
      · rw [← he, vrb]
        refine sw_iconst (v := 0) dX5_takesVerb_42 (by decide) ?_
        exact sw_ireturn dX5_takesVerb_43 rfl rfl (⟨⟨rfl, hL⟩, hS⟩)
      · exact absurd (nI_le (a := 8) (b := 8) (Nat.le_refl _) (by omega)) hc
    | succ c ih =>
      intro v g hv he hL hS
      have hTg := hT.kept (h' := g) (fun j a b => hS.2 j (by omega))
      have hv8 : v < 8 := by omega
      refine sw_iload_n dX5_takesVerb_2 rfl ?_
      refine sw_gets (v := .ref 1080) dX5_takesVerb_3 w_277 (by decide +kernel) ?_
      refine sw_alenR (v := 8) dX5_takesVerb_6 (vbs_mem) (by decide) ?_
      refine sw_cmpge (tgt := 42) dX5_takesVerb_7 (by decide) (fun hc => ?_) (fun hc => ?_)
      · exact absurd hc (nI_ge (b := 8) (by omega) (by omega))
      · refine sw_aload_n dX5_takesVerb_10 rfl ?_
        refine sw_gets (v := .ref 1080) dX5_takesVerb_11 w_277 (by decide +kernel) ?_
        refine sw_iload_n dX5_takesVerb_14 rfl ?_
        refine sw_aaldR (v := .ref (1000 + v)) dX5_takesVerb_15 (vbs_mem) (vp_in_nI (by omega) (by omega)) (nIat (f := fun i => vbs.getD i .null) (by omega) (vbs_at v (by omega))) ?_
        refine sw_getrN (v := .ref (1010 + (6 + 2 * v))) dX5_takesVerb_16 (o := _) (nm := _) (ds := _) (List.mem_of_getElem? (i := 0) rfl) (vb_wrd v hv8) ?_
        refine sw_cv1 dX5_takesVerb_19 cv_X5_85 (rc_of hL.1.1 rfl) (m_takes (show 6 + 2 * v < 22 by omega) hTg hL hK) (fun r g1 hr => ?_)
        obtain ⟨rfl, hL1, hS1⟩ := hr
        refine sw_ifeq (tgt := 36) dX5_takesVerb_22 (by decide) (fun hb => ?_) (fun hb => ?_)
        · have hnw : ¬ isWd tp K (6 + 2 * v) = true := bz_eq0.mp hb
          rw [if_neg hnw] at hL1
          refine sw_iinc (v := nI (v + 1)) dX5_takesVerb_36 rfl (nI_1 v) (by decide) rfl ?_
          refine sw_goto (tgt := 2) dX5_takesVerb_39 (by decide) ?_
          exact ih (v + 1) g1 (by omega) (by rw [vrb, if_neg hnw] at he; exact he) hL1 (hS.tr hS1)
        · have hnw : isWd tp K (6 + 2 * v) = true := bz_eq1.mp hb
          rw [if_pos hnw] at hL1
          rw [vrb, if_pos hnw] at he
          rw [← he]
          refine sw_aload_n dX5_takesVerb_25 rfl ?_
          refine sw_gets (v := .ref 1080) dX5_takesVerb_26 w_277 (by decide +kernel) ?_
          refine sw_iload_n dX5_takesVerb_29 rfl ?_
          refine sw_aaldR (v := .ref (1000 + v)) dX5_takesVerb_30 (vbs_mem) (vp_in_nI (by omega) (by omega)) (nIat (f := fun i => vbs.getD i .null) (by omega) (vbs_at v (by omega))) ?_
          refine sw_puta dX5_takesVerb_31 fl_X5_21 (hL1.1.1) (Nat.le_of_ble_eq_true rfl) (fun g2 z2 e2 o2 => ?_)
          refine sw_iconst (v := 1) dX5_takesVerb_34 (by decide) ?_
          exact sw_ireturn dX5_takesVerb_35 rfl rfl (⟨⟨rfl, ⟨e2, (o2 _ (by omega)).trans hL1.1.2.1, by omega⟩, hL1.2⟩, hS.tr (hS1.tr ⟨z2, o2⟩)⟩)
  refine sw_iconst (v := 0) dX5_takesVerb_0 (by decide) ?_
  refine sw_istore_n dX5_takesVerb_1 (by decide) rfl ?_
  exact loop 8 0 h rfl rfl hL SameL.rf
def flF (fo : Int32) (s w : Nat) : Int32 := if fo = 0 then nI (s + 8 * w) else fo
theorem mul8 (w : Nat) : (8 : Int32) * nI w = nI (8 * w) := (Int32.ofNat_mul 8 w).symm
theorem m_fail {G : SG} {d s w : Nat} {h : AH} {fo : Int32} {vb : Nat} {K : K3} {nm : Nat → Int32} (hL : TelK h fo vb K nm) : SW G mX5_fail d 0 0 0 [.ref 73, .int (nI s), .int (nI w)] [] h (fun r h' => r = none ∧ TelK h' (flF fo s w) vb K nm ∧ SameL h h') := by
  obtain ⟨⟨h73, h74, hvb⟩, hK5⟩ := id hL
  refine sw_aload_n dX5_fail_0 rfl ?_
  refine sw_getf dX5_fail_1 fl_X5_9 (h73) rfl ?_
  refine sw_ifne (tgt := 17) dX5_fail_4 (by decide) (fun hc => ?_) (fun hc => ?_)
  · have : flF fo s w = fo := by unfold flF; rw [if_neg hc]
    rw [this]
    exact sw_return dX5_fail_17 rfl (⟨rfl, hL, SameL.rf⟩)
  · have : flF fo s w = nI (s + 8 * w) := by unfold flF; rw [if_pos hc]
    rw [this]
    refine sw_aload_n dX5_fail_7 rfl ?_
    refine sw_iload_n dX5_fail_8 rfl ?_
    refine sw_bipush (v := 8) dX5_fail_9 (by decide) ?_
    refine sw_iload_n dX5_fail_11 rfl ?_
    refine sw_imul dX5_fail_12 ?_
    rw [mul8]
    refine sw_iadd dX5_fail_13 ?_
    rw [nI_add]
    refine sw_puti dX5_fail_14 fl_X5_9 (h73) (Nat.le_of_ble_eq_true rfl) (fun g1 z1 e1 o1 => ?_)
    exact sw_return dX5_fail_17 rfl (⟨rfl, ⟨⟨e1, (o1 _ (by omega)).trans h74, hvb⟩, hK5⟩, z1, o1⟩)
/-- the number that stands here -/
def nmF (tp : Nat → Int32) : Nat → Nat → Int32 → Int32
  | 0, _, a => a
  | c + 1, i, a => nmF tp c (i + 1) (a * 10 + tp i - 48)
theorem m_numberHere {G : SG} {d n vb : Nat} {h : AH} {tp nm : Nat → Int32} {fo : Int32} {K : K3} (hT : TapeAt h tp n) (hL : TelK h fo vb K nm) (hK : kOk n K) : SW G mX5_numberHere d 0 0 0 [.ref 73, .retAddr 0, .retAddr 0] [] h (fun r h' => r = some (.int (nmF tp (K.2.2 - K.2.1) K.2.1 0)) ∧ h' = h) := by
  obtain ⟨⟨h73, h74, hvb⟩, hK5⟩ := hL
  have hn := hT.2.2
  have hPT : K.2.1 ≤ K.2.2 := hK.1
  have hTn : K.2.2 ≤ n := hK.2
  have loop : ∀ (c i : Nat) (a : Int32), i + c = K.2.2 → nmF tp c i a = nmF tp (K.2.2 - K.2.1) K.2.1 0 → SW G mX5_numberHere d 0 0 7 [.ref 73, .int a, .int (nI i)] [] h (fun r h' => r = some (.int (nmF tp (K.2.2 - K.2.1) K.2.1 0)) ∧ h' = h) := by
    intro c
    induction c with
    | zero =>
      intro i a hi he
      refine sw_iload_n dX5_numberHere_7 rfl ?_
      refine sw_aload_n dX5_numberHere_8 rfl ?_
      refine sw_getf dX5_numberHere_9 fl_X5_34 (h73) rfl ?_
      refine sw_cmpge (tgt := 50) dX5_numberHere_12 (by decide) (fun hc => ?_) (fun hc => ?_)
      · refine sw_iload_n dX5_numberHere_50 rfl ?_
        exact sw_ireturn dX5_numberHere_51 rfl rfl (⟨by rw [← he]; rfl, rfl⟩)
      · exact absurd (nI_le (by omega) (by omega)) hc
    | succ c ih =>
      intro i a hi he
      refine sw_iload_n dX5_numberHere_7 rfl ?_
      refine sw_aload_n dX5_numberHere_8 rfl ?_
      refine sw_getf dX5_numberHere_9 fl_X5_34 (h73) rfl ?_
      refine sw_cmpge (tgt := 50) dX5_numberHere_12 (by decide) (fun hc => ?_) (fun hc => ?_)
      · exact absurd hc (nI_ge (by omega) (by omega))
      · refine sw_iload_n dX5_numberHere_15 rfl ?_
        refine sw_aload_n dX5_numberHere_16 rfl ?_
        refine sw_getf dX5_numberHere_17 fl_X5_37 (h73) rfl ?_
        refine sw_getf dX5_numberHere_20 fl_X5_107 (hT.1) rfl ?_
        refine sw_cmpge (tgt := 50) dX5_numberHere_23 (by decide) (fun hb => ?_) (fun hb => ?_)
        · exact absurd hb (nI_ge (by omega) (by omega))
        · refine sw_iload_n dX5_numberHere_26 rfl ?_
          refine sw_bipush (v := 10) dX5_numberHere_27 (by decide) ?_
          refine sw_imul dX5_numberHere_29 ?_
          refine sw_aload_n dX5_numberHere_30 rfl ?_
          refine sw_getf dX5_numberHere_31 fl_X5_37 (h73) rfl ?_
          refine sw_getf dX5_numberHere_34 fl_X5_111 (hT.1) rfl ?_
          refine sw_iload_n dX5_numberHere_37 rfl ?_
          refine sw_iald dX5_numberHere_38 (hT.2.1) (vp_in_nI (by omega) (by omega)) (nIat (by omega) rfl) ?_
          refine sw_iadd dX5_numberHere_39 ?_
          refine sw_bipush (v := 48) dX5_numberHere_40 (by decide) ?_
          refine sw_isub dX5_numberHere_42 ?_
          refine sw_istore_n dX5_numberHere_43 (by decide) rfl ?_
          refine sw_iinc (v := nI (i + 1)) dX5_numberHere_44 rfl (nI_1 i) (by decide) rfl ?_
          refine sw_goto (tgt := 7) dX5_numberHere_47 (by decide) ?_
          exact ih (i + 1) _ (by omega) (by rw [nmF] at he; exact he)
  refine sw_iconst (v := 0) dX5_numberHere_0 (by decide) ?_
  refine sw_istore_n dX5_numberHere_1 (by decide) rfl ?_
  refine sw_aload_n dX5_numberHere_2 rfl ?_
  refine sw_getf dX5_numberHere_3 fl_X5_31 (h73) rfl ?_
  refine sw_istore_n dX5_numberHere_6 (by decide) rfl ?_
  exact loop (K.2.2 - K.2.1) K.2.1 0 (by omega) rfl
