/-! what a statement does -/
theorem goOk.sub {a b : List E3} (h : goOk b) (hs : a.Sublist b) : goOk a := fun e he => h e (hs.subset he)
theorem shrL_sub (m : Int32) : ∀ (c : Nat) (es : List E3), (shrL m c es).Sublist es := by
  intro c
  induction c with
  | zero => intro es; exact List.Sublist.refl _
  | succ c ih =>
    intro es
    unfold shrL
    split
    · exact List.Sublist.refl _
    · exact (ih _).trans (List.eraseIdx_sublist _ _)
theorem goOk.put {es : List E3} {id goal now room : Int32} (h : goOk es) (hg : ∃ c, c < 8 ∧ goal = nI c) : goOk (putL es id goal now room) := by
  unfold putL
  split
  · intro e he
    rcases List.mem_or_eq_of_mem_set he with q | q
    · exact h e q
    · rw [q]; exact hg
  · intro e he
    unfold insL at he
    rcases (List.mem_insertIdx (insP_le _ _ _)).mp he with q | q
    · rw [q]; exact hg
    · exact h e ((shrL_sub _ _ _).subset q)
theorem kgl_rg {g : GS} {id : Int32} (h : goOk g.2.2.2) : kgl g id = -1 ∨ ∃ c, c < 8 ∧ kgl g id = nI c := by
  unfold kgl
  split
  · exact Or.inl rfl
  · next j hj =>
    obtain ⟨e, he, -⟩ := fix_some hj
    obtain ⟨c, hc, hce⟩ := h e (List.mem_of_getElem? he)
    rw [goE_at he, hce]
    split
    · exact Or.inl rfl
    · exact Or.inr ⟨c, hc, rfl⟩
theorem sndG_rg {w : WS} {gi : Nat} {id : Int32} (hw : wOk w) (hn : w.n ≤ 8) (hg : gi < 4) : sndG w gi id = -1 ∨ ∃ c, c < 8 ∧ sndG w gi id = nI c := by
  unfold sndG
  split
  · rcases tbl_rg w.p w.n (upsN (w.gs gi).1 8) w.ks w.wt (slfN id w.p) (slfN_lt (by have := hw.1.1; omega)) with q | ⟨c, hc, -, q⟩
    · exact Or.inl q
    · exact Or.inr ⟨c, by omega, q⟩
  · exact kgl_rg (hw.2.2 gi hg)
theorem sndE_ok {w : WS} {gi : Nat} {id : Int32} (hw : wOk w) (hn : w.n ≤ 8) (hg : gi < 4) : goOk (sndE w gi id) := by
  unfold sndE
  split
  · split
    · exact hw.2.2 gi hg
    · exact (hw.2.2 gi hg).sub (List.eraseIdx_sublist _ _)
  · next hne =>
    rcases sndG_rg (id := id) hw hn hg with q | q
    · exact absurd q hne
    · exact (hw.2.2 gi hg).put q
theorem sndW_ok {w : WS} {gi : Nat} {id : Int32} (hw : wOk w) (hn : w.n ≤ 8) (hg : gi < 4) : wOk (sndW w gi id) := by
  refine ⟨hw.1, hw.2.1, fun i hi => ?_⟩
  show goOk (updG w.gs gi _ i).2.2.2
  unfold updG
  split
  · exact sndE_ok hw hn hg
  · exact hw.2.2 i hi
/-- packets at the gateways that are meant -/
def pckW (gt id : Int32) : Nat → Nat → WS → WS
  | 0, _, w => w
  | c + 1, g, w => pckW gt id c (g + 1) (if gt = -1 ∨ gt = nI g then sndW w g id else w)
def wgtW (w : WS) (b : Nat) (v : Int32) : WS := (w.1, upd w.2.1 b v, w.2.2)
def prfW (w : WS) (v : Nat) (nm : Nat → Int32) : WS :=
  if v = 0 then rszW w (nm 0).toNatClampNeg
  else if v = 1 then addW w (nm 0) (nm 1)
  else if v = 2 then wgtW w (nm 0).toNatClampNeg (nm 1)
  else if v = 3 then w.sg (mapG (shwF (nm 0) (nm 1).toNatClampNeg (nm 2)) 4 w.gs)
  else if v = 4 then tckW w (nm 0)
  else if v = 5 then rmW w (nm 0)
  else if v = 6 then agW w (nm 0)
  else pckW (nm 0) (nm 1) 4 0 w
def prfOk (w : WS) (v : Nat) (nm : Nat → Int32) : Prop :=
  (v = 0 → ¬ nm 0 < 0) ∧ (v = 1 → w.n < 8) ∧ (v = 2 → ∃ c, c < 8 ∧ nm 0 = nI c) ∧ (v = 3 → ∃ c, c < 8 ∧ nm 1 = nI c) ∧ (v = 5 → ¬ nm 0 < 0) ∧ (v = 7 → wOk w)
theorem clampN {x : Int32} (h : ¬ x < 0) : x = nI x.toNatClampNeg := by
  obtain ⟨j, hj, e⟩ := nI_of h
  rw [e, nI_clamp hj]
theorem m_perform {G : SG} {d b v : Nat} {h : AH} {w : WS} {nm : Nat → Int32} (hW : WorldAt h b w) (hT : TabAt h) (hb : 9 ≤ b) (hb2 : b + 32 ≤ 73) (h74 : h[74]? = some (.inl (0, 3, .inl nm))) (hv : v < 8) (hO : prfOk w v nm) : SW G mX7_perform (d + 5) 0 0 0 [.ref b, .ref (1000 + v), .ref 74, .retAddr 0] [] h (fun r h' => r = none ∧ WorldAt h' b (prfW w v nm) ∧ TabAt h' ∧ SameT h h' b) := by
  have v0 : vp_in 0 3 := vp_in_nI (n := 0) (by omega) (by omega)
  have v1 : vp_in 1 3 := vp_in_nI (n := 1) (by omega) (by omega)
  have v2 : vp_in 2 3 := vp_in_nI (n := 2) (by omega) (by omega)
  have r0 : nm (0 : Int32).toNatClampNeg = nm 0 := rfl
  have r1 : nm (1 : Int32).toNatClampNeg = nm 1 := rfl
  have r2 : nm (2 : Int32).toNatClampNeg = nm 2 := rfl
  obtain ⟨k0, k1, k2, k3, k5, k7⟩ := hO
  have tk : ∀ {h' : AH}, SameW h h' b → TabAt h' := fun hS => hT.kept (fun j x y => hS.2 j (by omega))
  refine sw_gets (v := .ref 1082) dX7_perform_0 w_383 (by decide +kernel) ?_
  refine sw_aload_n dX7_perform_3 rfl ?_
  refine sw_callU (bc := 0) (bs := 0) (bc' := 0) (bs' := 0) (n := 0) (y' := mJx29ce0_ordinal_8abf5) (x0 := ⟨"FlowGates$Verb", "ordinal", "()I"⟩) (C0 := "FlowGates$Verb") [] dX7_perform_4 mJx29ce0_ordinal_8abf5_ok w_385 w_386 w_388 w_389 rfl (by decide +kernel) rfl (by decide) (fun _ q => by cases q) rfl (Nat.le_of_ble_eq_true rfl) (Or.inr (vb_cls v hv)) rfl (m_ordinal hv) (fun r g hr => ?_)
  obtain ⟨rfl, rfl⟩ := hr
  refine sw_ialdR (v := .int (if v = 7 then 0 else nI (v + 1))) dX7_perform_7 swm_mem (vp_in_nI hv (by omega)) (nIat (f := fun i => swm.getD i .null) (by omega) (swm_at v hv)) ?_
  unfold prfW
  rcases (show v = 0 ∨ v = 1 ∨ v = 2 ∨ v = 3 ∨ v = 4 ∨ v = 5 ∨ v = 6 ∨ v = 7 by omega) with rfl | rfl | rfl | rfl | rfl | rfl | rfl | rfl
  · refine sw_tsIn (tgt := 52) dX7_perform_8 (by decide) (by decide) (by rfl) (by decide) ?_
    refine sw_aload_n dX7_perform_52 rfl ?_
    refine sw_aload_n dX7_perform_53 rfl ?_
    refine sw_iconst (v := 0) dX7_perform_54 (by decide) ?_
    refine sw_iald dX7_perform_55 (h74) (v0) (r0) ?_
    obtain ⟨p0, hp0, hpe⟩ := nI_of (k0 rfl)
    rw [hpe]
    refine sw_cv1 dX7_perform_56 cv_X7_123 (rc_of hW.1 rfl) (m_resize (p := p0) hW) (fun r g1 hr => ?_)
    obtain ⟨rfl, hW1, hS1⟩ := hr
    refine sw_goto (tgt := 172) dX7_perform_59 (by decide) ?_
    exact sw_return dX7_perform_172 rfl (⟨rfl, by show WorldAt _ _ (rszW w (nI p0).toNatClampNeg); rw [nI_clamp hp0]; exact hW1, tk hS1, hS1.T⟩)
  · refine sw_tsIn (tgt := 62) dX7_perform_8 (by decide) (by decide) (by rfl) (by decide) ?_
    refine sw_aload_n dX7_perform_62 rfl ?_
    refine sw_aload_n dX7_perform_63 rfl ?_
    refine sw_iconst (v := 0) dX7_perform_64 (by decide) ?_
    refine sw_iald dX7_perform_65 (h74) (v0) (r0) ?_
    refine sw_aload_n dX7_perform_66 rfl ?_
    refine sw_iconst (v := 1) dX7_perform_67 (by decide) ?_
    refine sw_iald dX7_perform_68 (h74) (v1) (r1) ?_
    refine sw_cv2 dX7_perform_69 cv_X7_126 (rc_of hW.1 rfl) (m_addBackend hW (k1 rfl)) (fun r g1 hr => ?_)
    obtain ⟨rfl, hW1, hS1⟩ := hr
    refine sw_goto (tgt := 172) dX7_perform_72 (by decide) ?_
    exact sw_return dX7_perform_172 rfl (⟨rfl, hW1, tk hS1, hS1.T⟩)
  · obtain ⟨c, hc, hce⟩ := k2 rfl
    refine sw_tsIn (tgt := 75) dX7_perform_8 (by decide) (by decide) (by rfl) (by decide) ?_
    refine sw_aload_n dX7_perform_75 rfl ?_
    refine sw_getf dX7_perform_76 fl_X7_15 (hW.1) rfl ?_
    refine sw_aload_n dX7_perform_79 rfl ?_
    refine sw_iconst (v := 0) dX7_perform_80 (by decide) ?_
    refine sw_iald dX7_perform_81 (h74) (v0) (r0) ?_
    refine sw_aload_n dX7_perform_82 rfl ?_
    refine sw_iconst (v := 1) dX7_perform_83 (by decide) ?_
    refine sw_iald dX7_perform_84 (h74) (v1) (r1) ?_
    refine sw_iast dX7_perform_85 (hW.2.2.1) (by rw [hce]; exact vp_in_nI hc (by omega)) (fun g1 z1 e1 o1 => ?_)
    have hW1 : WorldAt g1 b (wgtW w (nm 0).toNatClampNeg (nm 1)) := by
      obtain ⟨a, c', d', ⟨f, e, e2⟩, n', g'⟩ := hW
      exact ⟨(o1 _ (by omega)).trans a, (o1 _ (by omega)).trans c', e1, ⟨f, (o1 _ (by omega)).trans e, e2⟩, n', fun i hi => (g' i hi).kept (fun j x y => o1 j (by omega))⟩
    have hS1 : SameW g g1 b := ⟨z1, fun j hj => o1 j (by omega)⟩
    refine sw_goto (tgt := 172) dX7_perform_86 (by decide) ?_
    exact sw_return dX7_perform_172 rfl (⟨rfl, hW1, tk hS1, hS1.T⟩)
  · obtain ⟨c, hc, hce⟩ := k3 rfl
    refine sw_tsIn (tgt := 89) dX7_perform_8 (by decide) (by decide) (by rfl) (by decide) ?_
    refine sw_aload_n dX7_perform_89 rfl ?_
    refine sw_aload_n dX7_perform_90 rfl ?_
    refine sw_iconst (v := 0) dX7_perform_91 (by decide) ?_
    refine sw_iald dX7_perform_92 (h74) (v0) (r0) ?_
    refine sw_aload_n dX7_perform_93 rfl ?_
    refine sw_iconst (v := 1) dX7_perform_94 (by decide) ?_
    refine sw_iald dX7_perform_95 (h74) (v1) (r1) ?_
    refine sw_aload_n dX7_perform_96 rfl ?_
    refine sw_iconst (v := 2) dX7_perform_97 (by decide) ?_
    refine sw_iald dX7_perform_98 (h74) (v2) (r2) ?_
    rw [hce]
    refine sw_cv3 dX7_perform_99 cv_X7_59 (rc_of hW.1 rfl) (m_show (bk := c) (gate := nm 0) (state := nm 2) hW hc) (fun r g1 hr => ?_)
    obtain ⟨rfl, hW1, hS1⟩ := hr
    rw [nI_clamp (by omega)]
    refine sw_pop dX7_perform_102 rfl ?_
    refine sw_goto (tgt := 172) dX7_perform_103 (by decide) ?_
    exact sw_return dX7_perform_172 rfl (⟨rfl, hW1, tk hS1, hS1.T⟩)
  · refine sw_tsIn (tgt := 106) dX7_perform_8 (by decide) (by decide) (by rfl) (by decide) ?_
    refine sw_aload_n dX7_perform_106 rfl ?_
    refine sw_aload_n dX7_perform_107 rfl ?_
    refine sw_iconst (v := 0) dX7_perform_108 (by decide) ?_
    refine sw_iald dX7_perform_109 (h74) (v0) (r0) ?_
    refine sw_cv1 dX7_perform_110 cv_X7_130 (rc_of hW.1 rfl) (m_passTicks hW) (fun r g1 hr => ?_)
    obtain ⟨rfl, hW1, hS1⟩ := hr
    refine sw_goto (tgt := 172) dX7_perform_113 (by decide) ?_
    exact sw_return dX7_perform_172 rfl (⟨rfl, hW1, tk hS1, hS1.T⟩)
  · refine sw_tsIn (tgt := 116) dX7_perform_8 (by decide) (by decide) (by rfl) (by decide) ?_
    refine sw_aload_n dX7_perform_116 rfl ?_
    refine sw_aload_n dX7_perform_117 rfl ?_
    refine sw_iconst (v := 0) dX7_perform_118 (by decide) ?_
    refine sw_iald dX7_perform_119 (h74) (v0) (r0) ?_
    refine sw_cv1 dX7_perform_120 cv_X7_133 (rc_of hW.1 rfl) (m_changeRoom hW (k5 rfl)) (fun r g1 hr => ?_)
    obtain ⟨rfl, hW1, hS1⟩ := hr
    refine sw_goto (tgt := 172) dX7_perform_123 (by decide) ?_
    exact sw_return dX7_perform_172 rfl (⟨rfl, hW1, tk hS1, hS1.T⟩)
  · refine sw_tsIn (tgt := 126) dX7_perform_8 (by decide) (by decide) (by rfl) (by decide) ?_
    refine sw_aload_n dX7_perform_126 rfl ?_
    refine sw_aload_n dX7_perform_127 rfl ?_
    refine sw_iconst (v := 0) dX7_perform_128 (by decide) ?_
    refine sw_iald dX7_perform_129 (h74) (v0) (r0) ?_
    refine sw_cv1 dX7_perform_130 cv_X7_136 (rc_of hW.1 rfl) (m_changeAge hW) (fun r g1 hr => ?_)
    obtain ⟨rfl, hW1, hS1⟩ := hr
    refine sw_goto (tgt := 172) dX7_perform_133 (by decide) ?_
    exact sw_return dX7_perform_172 rfl (⟨rfl, hW1, tk hS1, hS1.T⟩)
  · refine sw_tsOut (tgt := 136) dX7_perform_8 (Or.inl (by decide)) (by decide) ?_
    have loop : ∀ (c i : Nat) (g1 : AH) (w1 : WS), i + c = 4 → WorldAt g1 b w1 → TabAt g1 → SameT g g1 b → wOk w1 → pckW (nm 0) (nm 1) c i w1 = pckW (nm 0) (nm 1) 4 0 w → SW G mX7_perform (d + 5) 0 0 138 [.ref b, .ref (1000 + 7), .ref 74, .int (nI i)] [] g1 (fun r h' => r = none ∧ WorldAt h' b (pckW (nm 0) (nm 1) 4 0 w) ∧ TabAt h' ∧ SameT g h' b) := by
      intro c
      induction c with
      | zero =>
        intro i g1 w1 hi hW1 hT1 hS1 hw1 he
        have : i = 4 := by omega
        subst this
        refine sw_iload_n dX7_perform_138 rfl ?_
        refine sw_iconst (v := 4) dX7_perform_139 (by decide) ?_
        refine sw_cmpge (tgt := 172) dX7_perform_140 (by decide) (fun hc => ?_) (fun hc => ?_)
        · exact sw_return dX7_perform_172 rfl (⟨rfl, by rw [← he]; exact hW1, hT1, hS1⟩)
        · exact absurd (nI_le (a := 4) (b := 4) (Nat.le_refl _) (by omega)) hc
      | succ c ih =>
        intro i g1 w1 hi hW1 hT1 hS1 hw1 he
        have g74 := (hS1.2 74 (by omega) (by omega) (by omega) (by omega) (by omega)).trans h74
        have go : (nm 0 = -1 ∨ nm 0 = nI i) → SW G mX7_perform (d + 5) 0 0 157 [.ref b, .ref (1000 + 7), .ref 74, .int (nI i)] [] g1 (fun r h' => r = none ∧ WorldAt h' b (pckW (nm 0) (nm 1) 4 0 w) ∧ TabAt h' ∧ SameT g h' b) := by
          intro hg
          refine sw_aload_n dX7_perform_157 rfl ?_
          refine sw_iload_n dX7_perform_158 rfl ?_
          refine sw_aload_n dX7_perform_159 rfl ?_
          refine sw_iconst (v := 1) dX7_perform_160 (by decide) ?_
          refine sw_iald dX7_perform_161 (g74) (v1) (r1) ?_
          refine sw_cv2 dX7_perform_162 cv_X7_139 (rc_of hW1.1 rfl) (m_send (gi := i) hW1 hT1 hb (by omega) hw1) (fun r g2 hr => ?_)
          obtain ⟨rfl, hW2, hT2, hS2⟩ := hr
          refine sw_pop dX7_perform_165 rfl ?_
          refine sw_iinc (v := nI (i + 1)) dX7_perform_166 rfl (nI_1 i) (by decide) rfl ?_
          refine sw_goto (tgt := 138) dX7_perform_169 (by decide) ?_
          exact ih (i + 1) g2 _ (by omega) hW2 hT2 (hS1.tr hS2) (sndW_ok hw1 hW1.2.2.2.2.1 (by omega)) (by rw [pckW, if_pos hg] at he; exact he)
        refine sw_iload_n dX7_perform_138 rfl ?_
        refine sw_iconst (v := 4) dX7_perform_139 (by decide) ?_
        refine sw_cmpge (tgt := 172) dX7_perform_140 (by decide) (fun hc => ?_) (fun hc => ?_)
        · exact absurd hc (nI_ge (b := 4) (by omega) (by omega))
        · refine sw_aload_n dX7_perform_143 rfl ?_
          refine sw_iconst (v := 0) dX7_perform_144 (by decide) ?_
          refine sw_iald dX7_perform_145 (g74) (v0) (r0) ?_
          refine sw_iconst (v := (-1)) dX7_perform_146 (by decide) ?_
          refine sw_cmpeq (tgt := 157) dX7_perform_147 (by decide) (fun ha => ?_) (fun ha => ?_)
          · exact go (Or.inl ha)
          · refine sw_aload_n dX7_perform_150 rfl ?_
            refine sw_iconst (v := 0) dX7_perform_151 (by decide) ?_
            refine sw_iald dX7_perform_152 (g74) (v0) (r0) ?_
            refine sw_iload_n dX7_perform_153 rfl ?_
            refine sw_cmpne (tgt := 166) dX7_perform_154 (by decide) (fun hg => ?_) (fun hg => ?_)
            · refine sw_iinc (v := nI (i + 1)) dX7_perform_166 rfl (nI_1 i) (by decide) rfl ?_
              refine sw_goto (tgt := 138) dX7_perform_169 (by decide) ?_
              exact ih (i + 1) g1 w1 (by omega) hW1 hT1 hS1 hw1 (by rw [pckW, if_neg (fun q => q.elim ha hg)] at he; exact he)
            · exact go (Or.inr hg)
    refine sw_iconst (v := 0) dX7_perform_136 (by decide) ?_
    refine sw_istore_n dX7_perform_137 (by decide) rfl ?_
    exact loop 4 0 g w rfl hW hT SameT.rf (k7 rfl) rfl
