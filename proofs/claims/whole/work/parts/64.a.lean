def ML (f : Nat → Int32) (g : Nat) (ms : List E3) : Prop := f (53 + g) = nI ms.length ∧ ms.length ≤ 16 ∧ ∀ k e, ms[k]? = some e → f (57 + 16 * g + k) = e.1 ∧ f (121 + 16 * g + k) = e.2.1 ∧ f (185 + 16 * g + k) = e.2.2
def MG (f f' : Nat → Int32) (g : Nat) : Prop := ∀ i, ¬ i = 53 + g → ¬ (57 + 16 * g ≤ i ∧ i < 73 + 16 * g) → ¬ (121 + 16 * g ≤ i ∧ i < 137 + 16 * g) → ¬ (185 + 16 * g ≤ i ∧ i < 201 + 16 * g) → f' i = f i
theorem MG.rf {f : Nat → Int32} {g : Nat} : MG f f g := fun _ _ _ _ _ => rfl
theorem MG.tr {f f1 f2 : Nat → Int32} {g : Nat} (a : MG f f1 g) (b : MG f1 f2 g) : MG f f2 g := fun i x y z w => (b i x y z w).trans (a i x y z w)
def MGA (f f' : Nat → Int32) : Prop := ∀ i, i < 53 ∨ 249 ≤ i → f' i = f i
theorem MGA.rf {f : Nat → Int32} : MGA f f := fun _ _ => rfl
theorem MGA.tr {f f1 f2 : Nat → Int32} (a : MGA f f1) (b : MGA f1 f2) : MGA f f2 := fun i x => (b i x).trans (a i x)
theorem MG.A {f f' : Nat → Int32} {g : Nat} (hg : g < 4) (a : MG f f' g) : MGA f f' := fun i hi => a i (by omega) (by omega) (by omega) (by omega)
theorem ML.kept {f f' : Nat → Int32} {g g' : Nat} {ms : List E3} (h : ML f g' ms) (hg : g < 4) (hg' : g' < 4) (hne : g' ≠ g) (hm : MG f f' g) : ML f' g' ms := by
  obtain ⟨a, b, c⟩ := h
  refine ⟨(hm _ (by omega) (by omega) (by omega) (by omega)).trans a, b, fun k e he => ?_⟩
  have hk := (List.getElem?_eq_some_iff.mp he).1
  obtain ⟨x, y, z⟩ := c k e he
  exact ⟨(hm _ (by omega) (by omega) (by omega) (by omega)).trans x, (hm _ (by omega) (by omega) (by omega) (by omega)).trans y, (hm _ (by omega) (by omega) (by omega) (by omega)).trans z⟩
def SameR (h h' : AH) : Prop := h'.length = h.length ∧ ∀ j, j ≠ 76 → h'[j]? = h[j]?
theorem SameR.rf {h : AH} : SameR h h := ⟨rfl, fun _ _ => rfl⟩
theorem SameR.tr {h h1 h2 : AH} (x : SameR h h1) (y : SameR h1 h2) : SameR h h2 := ⟨y.1.trans x.1, fun j p => (y.2 j p).trans (x.2 j p)⟩
theorem n_placeOf {G : SG} {d g : Nat} {h : AH} {v : MV} {f : Nat → Int32} {ms : List E3} {id : Int32} (h5 : MoAt h v) (h6 : RoAt h f) (hg : g < 4) (hM : ML f g ms) : SW G mX9_placeOf (d + 1) 0 0 0 [.ref 75, .int (nI g), .int id, .retAddr 0] [] h (fun r h' => r = some (.int (fndL id ms 0)) ∧ h' = h) := by
  have h16 := hM.2.1
  have loop : ∀ (r : List E3) (i : Nat), ms.drop i = r → i ≤ ms.length → fndL id r i = fndL id ms 0 → SW G mX9_placeOf (d + 1) 0 0 2 [.ref 75, .int (nI g), .int id, .int (nI i)] [] h (fun r h' => r = some (.int (fndL id ms 0)) ∧ h' = h) := by
    intro r
    induction r with
    | nil =>
      intro i hd hi he
      have := dropN hd
      have : i = ms.length := by omega
      subst this
      refine sw_iload_n dX9_placeOf_2 rfl ?_
      refine sw_aload_n dX9_placeOf_3 rfl ?_
      refine sw_getf dX9_placeOf_4 fl_X9_7 (h5) rfl ?_
      refine sw_bipush (v := 53) dX9_placeOf_7 (by decide) ?_
      refine sw_iload_n dX9_placeOf_9 rfl ?_
      refine sw_iadd dX9_placeOf_10 ?_
      refine sw_iald dX9_placeOf_11 (h6) (wi (ix2 (a := 53)) (by omega) (by omega)) (wv (ix2 (a := 53)) (by omega) hM.1) ?_
      refine sw_cmpge (tgt := 33) dX9_placeOf_12 (by decide) (fun hc => ?_) (fun hc => ?_)
      · refine sw_iconst (v := (-1)) dX9_placeOf_33 (by decide) ?_
        exact sw_ireturn dX9_placeOf_34 rfl rfl (⟨by rw [← he]; rfl, rfl⟩)
      · exact absurd (nI_le (Nat.le_refl _) (by omega)) hc
    | cons e r ih =>
      intro i hd hi he
      obtain ⟨hee, hd2, hil⟩ := dropC hd
      refine sw_iload_n dX9_placeOf_2 rfl ?_
      refine sw_aload_n dX9_placeOf_3 rfl ?_
      refine sw_getf dX9_placeOf_4 fl_X9_7 (h5) rfl ?_
      refine sw_bipush (v := 53) dX9_placeOf_7 (by decide) ?_
      refine sw_iload_n dX9_placeOf_9 rfl ?_
      refine sw_iadd dX9_placeOf_10 ?_
      refine sw_iald dX9_placeOf_11 (h6) (wi (ix2 (a := 53)) (by omega) (by omega)) (wv (ix2 (a := 53)) (by omega) hM.1) ?_
      refine sw_cmpge (tgt := 33) dX9_placeOf_12 (by decide) (fun hc => ?_) (fun hc => ?_)
      · exact absurd hc (nI_ge (by omega) (by omega))
      · refine sw_aload_n dX9_placeOf_15 rfl ?_
        refine sw_iload_n dX9_placeOf_16 rfl ?_
        refine sw_iload_n dX9_placeOf_17 rfl ?_
        refine sw_pcv2 dX9_placeOf_18 cv_X9_74 (rc_of h5 rfl) (n_flowOf h5 h6 hg (b := i) (by omega)) ?_
        rw [(hM.2.2 i e hee).1]
        refine sw_iload_n dX9_placeOf_21 rfl ?_
        refine sw_cmpne (tgt := 27) dX9_placeOf_22 (by decide) (fun hq => ?_) (fun hq => ?_)
        · refine sw_iinc (v := nI (i + 1)) dX9_placeOf_27 rfl (nI_1 i) (by decide) rfl ?_
          refine sw_goto (tgt := 2) dX9_placeOf_30 (by decide) ?_
          exact ih (i + 1) hd2 (by omega) (by rw [← he, fndL, if_neg hq])
        · refine sw_iload_n dX9_placeOf_25 rfl ?_
          exact sw_ireturn dX9_placeOf_26 rfl rfl (⟨by rw [← he, fndL, if_pos hq], rfl⟩)
  refine sw_iconst (v := 0) dX9_placeOf_0 (by decide) ?_
  refine sw_istore_n dX9_placeOf_1 (by decide) rfl ?_
  exact loop ms 0 rfl (by omega) rfl
theorem n_forgets {G : SG} {d g k : Nat} {h : AH} {v : MV} {f : Nat → Int32} {ms : List E3} (h5 : MoAt h v) (h6 : RoAt h f) (hg : g < 4) (hM : ML f g ms) (hk : k < ms.length) : SW G mX9_forgets (d + 1) 0 0 0 [.ref 75, .int (nI g), .int (nI k), .retAddr 0] [] h (fun r h' => r = none ∧ SameR h h' ∧ ∃ f', RoAt h' f' ∧ ML f' g (swp ms k) ∧ MG f f' g) := by
  obtain ⟨hl, h16, hm⟩ := id hM
  have i53 : ∀ {b : Nat}, (53 : Int32) + nI b = nI (53 + b) := ix2 (a := 53)
  refine sw_aload_n dX9_forgets_0 rfl ?_
  refine sw_getf dX9_forgets_1 fl_X9_7 (h5) rfl ?_
  refine sw_bipush (v := 53) dX9_forgets_4 (by decide) ?_
  refine sw_iload_n dX9_forgets_6 rfl ?_
  refine sw_iadd dX9_forgets_7 ?_
  refine sw_dup2 dX9_forgets_8 rfl rfl ?_
  refine sw_iald dX9_forgets_9 (h6) (wi i53 (by omega) (by omega)) (wv i53 (by omega) hl) ?_
  refine sw_iconst (v := 1) dX9_forgets_10 (by decide) ?_
  refine sw_isub dX9_forgets_11 ?_
  refine sw_iast dX9_forgets_12 (h6) (wi i53 (by omega) (by omega)) (fun g1 z1 e1 o1 => ?_)
  rw [wu i53 (by omega), nI_p (by omega)] at e1
  have h5 : MoAt g1 v := (o1 75 (by omega)).trans h5
  refine sw_aload_n dX9_forgets_13 rfl ?_
  refine sw_getf dX9_forgets_14 fl_X9_7 (h5) rfl ?_
  refine sw_bipush (v := 53) dX9_forgets_17 (by decide) ?_
  refine sw_iload_n dX9_forgets_19 rfl ?_
  refine sw_iadd dX9_forgets_20 ?_
  refine sw_iald dX9_forgets_21 (e1) (wi i53 (by omega) (by omega)) (wv i53 (by omega) upd_at) ?_
  refine sw_istore_n dX9_forgets_22 (by decide) rfl ?_
  refine sw_aload_n dX9_forgets_23 rfl ?_
  refine sw_getf dX9_forgets_24 fl_X9_7 (h5) rfl ?_
  refine sw_bipush (v := 57) dX9_forgets_27 (by decide) ?_
  refine sw_bipush (v := 16) dX9_forgets_29 (by decide) ?_
  refine sw_iload_n dX9_forgets_31 rfl ?_
  refine sw_imul dX9_forgets_32 ?_
  refine sw_iadd dX9_forgets_33 ?_
  refine sw_iload_n dX9_forgets_34 rfl ?_
  refine sw_iadd dX9_forgets_35 ?_
  have hgl := gE_get (ms := ms) (i := ms.length - 1) (by omega)
  obtain ⟨l1, l2, l3⟩ := hm _ _ hgl
  refine sw_aload_n dX9_forgets_36 rfl ?_
  refine sw_iload_n dX9_forgets_37 rfl ?_
  refine sw_iload_n dX9_forgets_38 rfl ?_
  refine sw_pcv2 dX9_forgets_39 cv_X9_74 (rc_of h5 rfl) (n_flowOf (g := g) (b := ms.length - 1) h5 e1 hg (by omega)) ?_
  rw [upd_ne (show ¬ 57 + 16 * g + (ms.length - 1) = 53 + g by omega), l1]
  refine sw_iast dX9_forgets_42 (e1) (wi (ix3 (a := 57) (c := 16)) (by omega) (by omega)) (fun g2 z2 e2 o2 => ?_)
  rw [wu (show (57 : Int32) + 16 * nI g + nI k = nI (57 + 16 * g + k) from ix3) (by omega)] at e2
  have h5 : MoAt g2 v := (o2 75 (by omega)).trans h5
  refine sw_aload_n dX9_forgets_43 rfl ?_
  refine sw_getf dX9_forgets_44 fl_X9_7 (h5) rfl ?_
  refine sw_bipush (v := 121) dX9_forgets_47 (by decide) ?_
  refine sw_bipush (v := 16) dX9_forgets_49 (by decide) ?_
  refine sw_iload_n dX9_forgets_51 rfl ?_
  refine sw_imul dX9_forgets_52 ?_
  refine sw_iadd dX9_forgets_53 ?_
  refine sw_iload_n dX9_forgets_54 rfl ?_
  refine sw_iadd dX9_forgets_55 ?_
  refine sw_aload_n dX9_forgets_56 rfl ?_
  refine sw_iload_n dX9_forgets_57 rfl ?_
  refine sw_iload_n dX9_forgets_58 rfl ?_
  refine sw_pcv2 dX9_forgets_59 cv_X9_77 (rc_of h5 rfl) (n_toOf (g := g) (b := ms.length - 1) h5 e2 hg (by omega)) ?_
  rw [upd_ne (show ¬ 121 + 16 * g + (ms.length - 1) = 57 + 16 * g + k by omega), upd_ne (show ¬ 121 + 16 * g + (ms.length - 1) = 53 + g by omega), l2]
  refine sw_iast dX9_forgets_62 (e2) (wi (ix3 (a := 121) (c := 16)) (by omega) (by omega)) (fun g3 z3 e3 o3 => ?_)
  rw [wu (show (121 : Int32) + 16 * nI g + nI k = nI (121 + 16 * g + k) from ix3) (by omega)] at e3
  have h5 : MoAt g3 v := (o3 75 (by omega)).trans h5
  refine sw_aload_n dX9_forgets_63 rfl ?_
  refine sw_getf dX9_forgets_64 fl_X9_7 (h5) rfl ?_
  refine sw_sipush (v := 185) dX9_forgets_67 (by decide) ?_
  refine sw_bipush (v := 16) dX9_forgets_70 (by decide) ?_
  refine sw_iload_n dX9_forgets_72 rfl ?_
  refine sw_imul dX9_forgets_73 ?_
  refine sw_iadd dX9_forgets_74 ?_
  refine sw_iload_n dX9_forgets_75 rfl ?_
  refine sw_iadd dX9_forgets_76 ?_
  refine sw_aload_n dX9_forgets_77 rfl ?_
  refine sw_iload_n dX9_forgets_78 rfl ?_
  refine sw_iload_n dX9_forgets_79 rfl ?_
  refine sw_pcv2 dX9_forgets_80 cv_X9_80 (rc_of h5 rfl) (n_whenOf (g := g) (b := ms.length - 1) h5 e3 hg (by omega)) ?_
  rw [upd_ne (show ¬ 185 + 16 * g + (ms.length - 1) = 121 + 16 * g + k by omega), upd_ne (show ¬ 185 + 16 * g + (ms.length - 1) = 57 + 16 * g + k by omega), upd_ne (show ¬ 185 + 16 * g + (ms.length - 1) = 53 + g by omega), l3]
  refine sw_iast dX9_forgets_83 (e3) (wi (ix3 (a := 185) (c := 16)) (by omega) (by omega)) (fun g4 z4 e4 o4 => ?_)
  rw [wu (show (185 : Int32) + 16 * nI g + nI k = nI (185 + 16 * g + k) from ix3) (by omega)] at e4
  have hS : SameR h g4 := ⟨z4.trans (z3.trans (z2.trans z1)), fun j hj => (o4 j hj).trans ((o3 j hj).trans ((o2 j hj).trans (o1 j hj)))⟩
  have hML : ML (upd (upd (upd (upd f (53 + g) (nI (ms.length - 1))) (57 + 16 * g + k) (gE ms (ms.length - 1)).1) (121 + 16 * g + k) (gE ms (ms.length - 1)).2.1) (185 + 16 * g + k) (gE ms (ms.length - 1)).2.2) g (swp ms k) := by
    refine ⟨?_, by rw [swp_len]; omega, fun i e he => ?_⟩
    · rw [upd_ne (by omega), upd_ne (by omega), upd_ne (by omega), upd_at, swp_len]
    · have hil := (List.getElem?_eq_some_iff.mp he).1
      rw [swp_len] at hil
      rw [swp_get hil hk] at he
      have he := Option.some.inj he
      by_cases hik : i = k
      · subst hik
        rw [if_pos rfl] at he
        subst he
        refine ⟨?_, ?_, upd_at⟩
        · rw [upd_ne (by omega), upd_ne (by omega), upd_at]
        · rw [upd_ne (by omega), upd_at]
      · rw [if_neg hik] at he
        subst he
        obtain ⟨a, b, c⟩ := hm i _ (gE_get (by omega))
        refine ⟨?_, ?_, ?_⟩
        · rw [upd_ne (by omega), upd_ne (by omega), upd_ne (by omega), upd_ne (by omega)]; exact a
        · rw [upd_ne (by omega), upd_ne (by omega), upd_ne (by omega), upd_ne (by omega)]; exact b
        · rw [upd_ne (by omega), upd_ne (by omega), upd_ne (by omega), upd_ne (by omega)]; exact c
  have hMG : MG f (upd (upd (upd (upd f (53 + g) (nI (ms.length - 1))) (57 + 16 * g + k) (gE ms (ms.length - 1)).1) (121 + 16 * g + k) (gE ms (ms.length - 1)).2.1) (185 + 16 * g + k) (gE ms (ms.length - 1)).2.2) g := by
    intro i a b c d
    rw [upd_ne (by omega), upd_ne (by omega), upd_ne (by omega), upd_ne (by omega)]
  exact sw_return dX9_forgets_84 rfl (⟨rfl, hS, _, e4, hML, hMG⟩)
