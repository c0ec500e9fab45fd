theorem MLs.gen {f f' : Nat → Int32} {es es' : Nat → List E3} {g : Nat} {ms : List E3} (h : MLs f es) (hg : g < 4) (hM : ML f' g ms) (hG : MG f f' g) (hP : ms.Perm (es' g)) (he : ∀ j, j < 4 → ¬ j = g → es' j = es j) : MLs f' es' := by
  refine (h.upd hg hM hG hP).cg (fun j hj => ?_)
  by_cases hjg : j = g
  · subst hjg; rw [if_pos rfl]
  · rw [if_neg hjg, he j hj hjg]
def setM (w : WS) (g : Nat) (l : List E3) : WS := w.sg (updG w.gs g ((w.gs g).1, (w.gs g).2.1, (w.gs g).2.2.1, l))
theorem setM_gs {w : WS} {g : Nat} {l : List E3} (j : Nat) : ((setM w g l).gs j).2.2.2 = if j = g then l else (w.gs j).2.2.2 := by
  show (updG w.gs g _ j).2.2.2 = _
  unfold updG
  split <;> rfl
theorem setM_g3 {w : WS} {g : Nat} {l : List E3} (j : Nat) : ((setM w g l).gs j).1 = (w.gs j).1 ∧ ((setM w g l).gs j).2.1 = (w.gs j).2.1 ∧ ((setM w g l).gs j).2.2.1 = (w.gs j).2.2.1 := by
  show (updG w.gs g _ j).1 = _ ∧ (updG w.gs g _ j).2.1 = _ ∧ (updG w.gs g _ j).2.2.1 = _
  unfold updG
  split
  · next h => rw [h]; exact ⟨rfl, rfl, rfl⟩
  · exact ⟨rfl, rfl, rfl⟩
theorem MR.mem {f f' : Nat → Int32} {w : WS} {g : Nat} {ms l : List E3} (h : MR f w) (hg : g < 4) (hM : ML f' g ms) (hG : MG f f' g) (hP : ms.Perm l) : MR f' (setM w g l) := by
  obtain ⟨⟨a, b, c, d, e⟩, k, gr, ml⟩ := h
  have o : ∀ i, i < 53 ∨ 249 ≤ i → f' i = f i := hG.A hg
  refine ⟨⟨(o 0 (by omega)).trans a, (o 1 (by omega)).trans b, (o 2 (by omega)).trans c, (o 3 (by omega)).trans d, (o 4 (by omega)).trans e⟩, fun b hb => ⟨(o _ (by omega)).trans (k b hb).1, (o _ (by omega)).trans (k b hb).2⟩, fun j hj => ?_, ?_⟩
  · obtain ⟨x, y, z⟩ := gr j hj
    obtain ⟨s1, s2, s3⟩ := setM_g3 (w := w) (g := g) (l := l) j
    refine ⟨fun b hb => by rw [s1, o _ (by omega)]; exact x b hb, by rw [s3, o _ (by omega)]; exact y, fun hk s hs => ?_⟩
    rw [s3] at hk
    rw [s2, o _ (by omega)]
    exact z hk s hs
  · refine ml.gen hg hM hG ?_ (fun j hj hjg => ?_)
    · show ms.Perm ((setM w g l).gs g).2.2.2
      rw [setM_gs, if_pos rfl]; exact hP
    · show ((setM w g l).gs j).2.2.2 = _
      rw [setM_gs, if_neg hjg]
theorem sndW_set {w : WS} {g : Nat} {id : Int32} : sndW w g id = setM w g (sndE w g id) := rfl
theorem sndG_gt {w : WS} {g : Nat} {id : Int32} : sndG w g id = gt1 w g id := rfl
theorem shr_room {r : Nat} {es : List E3} (hr : 1 ≤ r) (hr16 : r ≤ 16) (hl : es.length ≤ r) : shrL (nI r - 1) 16 es = if es.length = r then es.eraseIdx (eld es) else es := by
  rw [nI_p (by omega)]
  unfold shrL
  by_cases h : es.length = r
  · rw [if_pos h, if_neg (nI_ge (by omega) (by omega))]
    have : (es.eraseIdx (eld es)).length = r - 1 := by
      rw [List.length_eraseIdx_of_lt (eld_lt (by omega))]; omega
    unfold shrL
    rw [if_pos (by rw [this]; exact nI_le (Nat.le_refl _) (by omega))]
  · rw [if_neg h, if_pos (nI_le (by omega) (by omega))]
theorem ML.set {f : Nat → Int32} {g k : Nat} {ms : List E3} {a b c : Int32} (h : ML f g ms) (hg : g < 4) (hk : k < ms.length) : ML (upd (upd (upd f (57 + 16 * g + k) a) (121 + 16 * g + k) b) (185 + 16 * g + k) c) g (ms.set k (a, b, c)) := by
  obtain ⟨x, y, z⟩ := h
  refine ⟨by rw [upd_ne (by omega), upd_ne (by omega), upd_ne (by omega), List.length_set]; exact x, by rw [List.length_set]; exact y, fun i e he => ?_⟩
  rw [List.getElem?_set] at he
  by_cases hki : k = i
  · subst hki
    rw [if_pos rfl, if_pos hk] at he
    have := Option.some.inj he
    subst this
    exact ⟨by rw [upd_ne (by omega), upd_ne (by omega), upd_at], by rw [upd_ne (by omega), upd_at], upd_at⟩
  · rw [if_neg hki] at he
    have hil := (List.getElem?_eq_some_iff.mp he).1
    obtain ⟨p, q, r⟩ := z i e he
    exact ⟨by rw [upd_ne (by omega), upd_ne (by omega), upd_ne (by omega)]; exact p, by rw [upd_ne (by omega), upd_ne (by omega), upd_ne (by omega)]; exact q, by rw [upd_ne (by omega), upd_ne (by omega), upd_ne (by omega)]; exact r⟩
theorem ML.app {f : Nat → Int32} {g : Nat} {ms : List E3} {a b c : Int32} (h : ML f g ms) (hg : g < 4) (hk : ms.length < 16) : ML (upd (upd (upd (upd f (53 + g) (nI (ms.length + 1))) (57 + 16 * g + ms.length) a) (121 + 16 * g + ms.length) b) (185 + 16 * g + ms.length) c) g (ms ++ [(a, b, c)]) := by
  obtain ⟨x, y, z⟩ := h
  refine ⟨by rw [upd_ne (by omega), upd_ne (by omega), upd_ne (by omega), upd_at, List.length_append]; rfl, by rw [List.length_append]; show ms.length + 1 ≤ 16; omega, fun i e he => ?_⟩
  by_cases hil : i < ms.length
  · rw [List.getElem?_append_left hil] at he
    obtain ⟨p, q, r⟩ := z i e he
    exact ⟨by rw [upd_ne (by omega), upd_ne (by omega), upd_ne (by omega), upd_ne (by omega)]; exact p, by rw [upd_ne (by omega), upd_ne (by omega), upd_ne (by omega), upd_ne (by omega)]; exact q, by rw [upd_ne (by omega), upd_ne (by omega), upd_ne (by omega), upd_ne (by omega)]; exact r⟩
  · have hlt := (List.getElem?_eq_some_iff.mp he).1
    rw [List.length_append] at hlt
    have hlt : i < ms.length + 1 := hlt
    have : i = ms.length := by omega
    subst this
    rw [List.getElem?_append_right (Nat.le_refl _), Nat.sub_self] at he
    have := Option.some.inj he
    subst this
    exact ⟨by rw [upd_ne (by omega), upd_ne (by omega), upd_at], by rw [upd_ne (by omega), upd_at], upd_at⟩
theorem MG3 {f : Nat → Int32} {g k : Nat} {a b c : Int32} (hk : k < 16) : MG f (upd (upd (upd f (57 + 16 * g + k) a) (121 + 16 * g + k) b) (185 + 16 * g + k) c) g := by
  intro i x y z w
  rw [upd_ne (by omega), upd_ne (by omega), upd_ne (by omega)]
theorem MG1 {f : Nat → Int32} {g : Nat} {a : Int32} : MG f (upd f (53 + g) a) g := by
  intro i x y z w
  rw [upd_ne (by omega)]
theorem n_packs {G : SG} {d g t a r : Nat} {h : AH} {v : MV} {f : Nat → Int32} {w : WS} {id : Int32} (h5 : MoAt h v) (h6 : RoAt h f) (hS : SC h) (hR : MR f w) (hC : cIn w t a r) (hg : g < 4) : SW G mX9_packs (d + 6) 0 0 0 [.ref 75, .int (nI g), .int id, .retAddr 0, .retAddr 0] [] h (fun r h' => r = some (.int (sndG w g id)) ∧ SameX h h' ∧ SC h' ∧ ∃ f', RoAt h' f' ∧ MR f' (sndW w g id)) := by
  have i53 : ∀ {b : Nat}, (53 : Int32) + nI b = nI (53 + b) := ix2 (a := 53)
  obtain ⟨ms, hML, hP⟩ := hR.2.2.2 g hg
  have hP : ms.Perm (w.gs g).2.2.2 := hP
  have hG := hC.2.2.2.2.2.2 g hg
  have h16 := hML.2.1
  have hr := hC.2.2.2.2.1
  have hrm : w.rm = nI r := hC.2.2.2.2.2.1.2.2
  have hck : f 2 = w.ck := hR.1.2.2.1
  have hlen := hP.length_eq
  have hlr := hG.2.2.2.2.1
  -- the end of a put
  have tail : ∀ (g1 : AH) (f1 : Nat → Int32) (k : Nat), k < 16 → SameX h g1 → SC g1 → RoAt g1 f1 → f1 2 = w.ck → (∀ g2 : AH, SameR g1 g2 → RoAt g2 (upd (upd (upd f1 (57 + 16 * g + k) id) (121 + 16 * g + k) (sndG w g id)) (185 + 16 * g + k) w.ck) → MR (upd (upd (upd f1 (57 + 16 * g + k) id) (121 + 16 * g + k) (sndG w g id)) (185 + 16 * g + k) w.ck) (sndW w g id)) → SW G mX9_packs (d + 6) 0 0 93 [.ref 75, .int (nI g), .int id, .int (sndG w g id), .int (nI k)] [] g1 (fun r h' => r = some (.int (sndG w g id)) ∧ SameX h h' ∧ SC h' ∧ ∃ f', RoAt h' f' ∧ MR f' (sndW w g id)) := by
    intro g1 f1 k hk hX hS1 h61 hck1 hMR
    have h5 : MoAt g1 v := (hX.2 75 (by omega)).trans h5
    refine sw_aload_n dX9_packs_93 rfl ?_
    refine sw_getf dX9_packs_94 fl_X9_7 (h5) rfl ?_
    refine sw_bipush (v := 57) dX9_packs_97 (by decide) ?_
    refine sw_bipush (v := 16) dX9_packs_99 (by decide) ?_
    refine sw_iload_n dX9_packs_101 rfl ?_
    refine sw_imul dX9_packs_102 ?_
    refine sw_iadd dX9_packs_103 ?_
    refine sw_iload dX9_packs_104 rfl ?_
    refine sw_iadd dX9_packs_106 ?_
    refine sw_iload_n dX9_packs_107 rfl ?_
    refine sw_iast dX9_packs_108 (h61) (wi (ix3 (a := 57) (c := 16)) (by omega) (by omega)) (fun g2 z2 e2 o2 => ?_)
    rw [wu (show (57 : Int32) + 16 * nI g + nI k = nI (57 + 16 * g + k) from ix3) (by omega)] at e2
    have h5 : MoAt g2 v := (o2 75 (by omega)).trans h5
    refine sw_aload_n dX9_packs_109 rfl ?_
    refine sw_getf dX9_packs_110 fl_X9_7 (h5) rfl ?_
    refine sw_bipush (v := 121) dX9_packs_113 (by decide) ?_
    refine sw_bipush (v := 16) dX9_packs_115 (by decide) ?_
    refine sw_iload_n dX9_packs_117 rfl ?_
    refine sw_imul dX9_packs_118 ?_
    refine sw_iadd dX9_packs_119 ?_
    refine sw_iload dX9_packs_120 rfl ?_
    refine sw_iadd dX9_packs_122 ?_
    refine sw_iload_n dX9_packs_123 rfl ?_
    refine sw_iast dX9_packs_124 (e2) (wi (ix3 (a := 121) (c := 16)) (by omega) (by omega)) (fun g3 z3 e3 o3 => ?_)
    rw [wu (show (121 : Int32) + 16 * nI g + nI k = nI (121 + 16 * g + k) from ix3) (by omega)] at e3
    have h5 : MoAt g3 v := (o3 75 (by omega)).trans h5
    have e32 : upd (upd f1 (57 + 16 * g + k) id) (121 + 16 * g + k) (sndG w g id) 2 = w.ck := by rw [upd_ne (by omega), upd_ne (by omega)]; exact hck1
    refine sw_aload_n dX9_packs_125 rfl ?_
    refine sw_getf dX9_packs_126 fl_X9_7 (h5) rfl ?_
    refine sw_sipush (v := 185) dX9_packs_129 (by decide) ?_
    refine sw_bipush (v := 16) dX9_packs_132 (by decide) ?_
    refine sw_iload_n dX9_packs_134 rfl ?_
    refine sw_imul dX9_packs_135 ?_
    refine sw_iadd dX9_packs_136 ?_
    refine sw_iload dX9_packs_137 rfl ?_
    refine sw_iadd dX9_packs_139 ?_
    refine sw_aload_n dX9_packs_140 rfl ?_
    refine sw_getf dX9_packs_141 fl_X9_7 (h5) rfl ?_
    refine sw_iconst (v := 2) dX9_packs_144 (by decide) ?_
    refine sw_iald dX9_packs_145 (e3) (vp_in_nI (n := 2) (by omega) (by omega)) (e32) ?_
    refine sw_iast dX9_packs_146 (e3) (wi (ix3 (a := 185) (c := 16)) (by omega) (by omega)) (fun g4 z4 e4 o4 => ?_)
    rw [wu (show (185 : Int32) + 16 * nI g + nI k = nI (185 + 16 * g + k) from ix3) (by omega)] at e4
    have hSR : SameR g1 g4 := ⟨z4.trans (z3.trans z2), fun j hj => (o4 j hj).trans ((o3 j hj).trans (o2 j hj))⟩
    refine sw_iload_n dX9_packs_147 rfl ?_
    exact sw_ireturn dX9_packs_148 rfl rfl (⟨rfl, hX.tr hSR.X, hS1.R hSR, _, e4, hMR g4 hSR e4⟩)
  refine sw_aload_n dX9_packs_0 rfl ?_
  refine sw_iload_n dX9_packs_1 rfl ?_
  refine sw_iload_n dX9_packs_2 rfl ?_
  refine sw_cv2 dX9_packs_3 cv_X9_100 (rc_of h5 rfl) (n_goesTo h5 h6 hS hR hC hg) (fun rr g1 hr1 => ?_)
  obtain ⟨rfl, hZ, hS1⟩ := hr1
  have h5 : MoAt g1 v := (hZ.2 75 (by omega)).trans h5
  have h6 : RoAt g1 f := (hZ.2 76 (by omega)).trans h6
  rw [← sndG_gt]
  refine sw_istore_n dX9_packs_6 (by decide) rfl ?_
  refine sw_aload_n dX9_packs_7 rfl ?_
  refine sw_iload_n dX9_packs_8 rfl ?_
  refine sw_iload_n dX9_packs_9 rfl ?_
  refine sw_pcv2 dX9_packs_10 cv_X9_91 (rc_of h5 rfl) (n_placeOf h5 h6 hg hML) ?_
  rw [fndL_fix]
  rcases fix_perm (id := id) hP hG.2.2.2.1 with ⟨q1, q2⟩ | ⟨j, k, e, q1, q2, q3, q4, q5⟩
  · rw [q2]
    simp only []
    refine sw_istore dX9_packs_13 (by decide) rfl ?_
    refine sw_iload_n dX9_packs_15 rfl ?_
    refine sw_iconst (v := (-1)) dX9_packs_16 (by decide) ?_
    refine sw_cmpne (tgt := 35) dX9_packs_17 (by decide) (fun hto => ?_) (fun hto => ?_)
    · refine sw_iload dX9_packs_35 rfl ?_
      refine sw_iconst (v := (-1)) dX9_packs_37 (by decide) ?_
      refine sw_cmpne (tgt := 93) dX9_packs_38 (by decide) (fun hk => ?_) (fun hk => ?_)
      · exact absurd rfl hk
      · have hE : sndE w g id = insL (shrL (w.rm - 1) 16 (w.gs g).2.2.2) (id, sndG w g id, w.ck) := by
          unfold sndE putL
          rw [if_neg hto, q1]
        -- one more
        have more : ∀ (g2 : AH) (f2 : Nat → Int32) (m2 : List E3), m2.length < 16 → SameX h g2 → SC g2 → RoAt g2 f2 → ML f2 g m2 → MG f f2 g → m2.Perm (shrL (w.rm - 1) 16 (w.gs g).2.2.2) → SW G mX9_packs (d + 6) 0 0 69 [.ref 75, .int (nI g), .int id, .int (sndG w g id), .int (-1)] [] g2 (fun r h' => r = some (.int (sndG w g id)) ∧ SameX h h' ∧ SC h' ∧ ∃ f', RoAt h' f' ∧ MR f' (sndW w g id)) := by
          intro g2 f2 m2 hm2 hX hS2 h62 hML2 hG2 hP2
          have h5 : MoAt g2 v := (hX.2 75 (by omega)).trans ((hZ.2 75 (by omega)).symm.trans h5)
          refine sw_aload_n dX9_packs_69 rfl ?_
          refine sw_getf dX9_packs_70 fl_X9_7 (h5) rfl ?_
          refine sw_bipush (v := 53) dX9_packs_73 (by decide) ?_
          refine sw_iload_n dX9_packs_75 rfl ?_
          refine sw_iadd dX9_packs_76 ?_
          refine sw_iald dX9_packs_77 (h62) (wi i53 (by omega) (by omega)) (wv i53 (by omega) hML2.1) ?_
          refine sw_istore dX9_packs_78 (by decide) rfl ?_
          refine sw_aload_n dX9_packs_80 rfl ?_
          refine sw_getf dX9_packs_81 fl_X9_7 (h5) rfl ?_
          refine sw_bipush (v := 53) dX9_packs_84 (by decide) ?_
          refine sw_iload_n dX9_packs_86 rfl ?_
          refine sw_iadd dX9_packs_87 ?_
          refine sw_dup2 dX9_packs_88 rfl rfl ?_
          refine sw_iald dX9_packs_89 (h62) (wi i53 (by omega) (by omega)) (wv i53 (by omega) hML2.1) ?_
          refine sw_iconst (v := 1) dX9_packs_90 (by decide) ?_
          refine sw_iadd dX9_packs_91 ?_
          refine sw_iast dX9_packs_92 (h62) (wi i53 (by omega) (by omega)) (fun g3 z3 e3 o3 => ?_)
          rw [wu i53 (by omega), nI_1] at e3
          refine tail g3 _ m2.length hm2 (hX.tr (SameR.X ⟨z3, o3⟩)) (hS2.R ⟨z3, o3⟩) e3 (by rw [upd_ne (by omega), hG2 2 (by omega) (by omega) (by omega) (by omega)]; exact hck) (fun g4 hR4 h64 => ?_)
          rw [sndW_set, hE]
          refine hR.mem hg (hML2.app hg hm2) (hG2.tr (MG1.tr (MG3 hm2))) ?_
          exact (List.perm_append_singleton _ _).trans ((hP2.cons _).trans ins_perm.symm)
        refine sw_aload_n dX9_packs_41 rfl ?_
        refine sw_getf dX9_packs_42 fl_X9_7 (h5) rfl ?_
        refine sw_bipush (v := 53) dX9_packs_45 (by decide) ?_
        refine sw_iload_n dX9_packs_47 rfl ?_
        refine sw_iadd dX9_packs_48 ?_
        refine sw_iald dX9_packs_49 (h6) (wi i53 (by omega) (by omega)) (wv i53 (by omega) hML.1) ?_
        refine sw_aload_n dX9_packs_50 rfl ?_
        refine sw_getf dX9_packs_51 fl_X9_7 (h5) rfl ?_
        refine sw_iconst (v := 3) dX9_packs_54 (by decide) ?_
        refine sw_iald dX9_packs_55 (h6) (vp_in_nI (n := 3) (by omega) (by omega)) (hR.1.2.2.2.1.trans hrm) ?_
        refine sw_cmpne (tgt := 69) dX9_packs_56 (by decide) (fun hfull => ?_) (fun hfull => ?_)
        · have hfull : ¬ ms.length = r := fun q => hfull (by rw [q])
          exact more g1 f ms (by omega) hZ.X hS1 h6 hML MG.rf (by rw [hrm, shr_room (by omega) (by omega) hlr, if_neg (by rw [← hlen]; exact hfull)]; exact hP)
        · have hfull : ms.length = r := (nI_eq (by omega) (by omega)).mp hfull
          have hlt := eldM_lt (ms := ms) (by omega)
          obtain ⟨e, he1, he2⟩ := eld_same hP hG.2.2.2.1 (by omega)
          refine sw_aload_n dX9_packs_59 rfl ?_
          refine sw_iload_n dX9_packs_60 rfl ?_
          refine sw_aload_n dX9_packs_61 rfl ?_
          refine sw_iload_n dX9_packs_62 rfl ?_
          refine sw_pcv1 dX9_packs_63 cv_X9_86 (rc_of h5 rfl) (n_eldest (g := g) h5 h6 hg hML) ?_
          refine sw_cv2 dX9_packs_66 cv_X9_83 (rc_of h5 rfl) (n_forgets (g := g) (k := eldM ms) h5 h6 hg hML hlt) (fun r' g3 hr3 => ?_)
          obtain ⟨rfl, hS3, f3, h63, hML3, hG3⟩ := hr3
          exact more g3 f3 _ (by rw [swp_len]; omega) (hZ.X.tr hS3.X) (hS1.R hS3) h63 hML3 hG3 (by rw [hrm, shr_room (by omega) (by omega) hlr, if_pos (by rw [← hlen]; exact hfull)]; exact forget_perm hP he1 he2)
    · refine sw_iload dX9_packs_20 rfl ?_
      refine sw_iconst (v := (-1)) dX9_packs_22 (by decide) ?_
      refine sw_cmpeq (tgt := 33) dX9_packs_23 (by decide) (fun hk => ?_) (fun hk => ?_)
      · have hE : sndE w g id = (w.gs g).2.2.2 := by unfold sndE; rw [if_pos hto, q1]
        refine sw_iconst (v := (-1)) dX9_packs_33 (by decide) ?_
        exact sw_ireturn dX9_packs_34 rfl rfl (⟨by rw [hto], hZ.X, hS1, f, h6, by rw [sndW_set, hE]; exact hR.mem hg hML MG.rf hP⟩)
      · exact absurd rfl hk
  · rw [q2]
    simp only [Nat.zero_add]
    have hkl := (List.getElem?_eq_some_iff.mp q4).1
    refine sw_istore dX9_packs_13 (by decide) rfl ?_
    refine sw_iload_n dX9_packs_15 rfl ?_
    refine sw_iconst (v := (-1)) dX9_packs_16 (by decide) ?_
    refine sw_cmpne (tgt := 35) dX9_packs_17 (by decide) (fun hto => ?_) (fun hto => ?_)
    · have hE : sndE w g id = (w.gs g).2.2.2.set j (id, sndG w g id, w.ck) := by
        unfold sndE putL
        rw [if_neg hto, q1]
      refine sw_iload dX9_packs_35 rfl ?_
      refine sw_iconst (v := (-1)) dX9_packs_37 (by decide) ?_
      refine sw_cmpne (tgt := 93) dX9_packs_38 (by decide) (fun hk => ?_) (fun hk => ?_)
      · refine tail g1 f k (by omega) hZ.X hS1 h6 hck (fun g4 hR4 h64 => ?_)
        rw [sndW_set, hE]
        exact hR.mem hg (hML.set hg hkl) (MG3 (by omega)) (set_both hP q3 q4)
      · exact absurd hk (nI_ne_m1 (by omega))
    · have hE : sndE w g id = (w.gs g).2.2.2.eraseIdx j := by unfold sndE; rw [if_pos hto, q1]
      refine sw_iload dX9_packs_20 rfl ?_
      refine sw_iconst (v := (-1)) dX9_packs_22 (by decide) ?_
      refine sw_cmpeq (tgt := 33) dX9_packs_23 (by decide) (fun hk => ?_) (fun hk => ?_)
      · exact absurd hk (nI_ne_m1 (by omega))
      · refine sw_aload_n dX9_packs_26 rfl ?_
        refine sw_iload_n dX9_packs_27 rfl ?_
        refine sw_iload dX9_packs_28 rfl ?_
        refine sw_cv2 dX9_packs_30 cv_X9_83 (rc_of h5 rfl) (n_forgets (g := g) (k := k) h5 h6 hg hML hkl) (fun r' g3 hr3 => ?_)
        obtain ⟨rfl, hS3, f3, h63, hML3, hG3⟩ := hr3
        refine sw_iconst (v := (-1)) dX9_packs_33 (by decide) ?_
        exact sw_ireturn dX9_packs_34 rfl rfl (⟨by rw [hto], hZ.X.tr hS3.X, hS1.R hS3, f3, h63, by rw [sndW_set, hE]; exact hR.mem hg hML3 hG3 (forget_perm hP q3 q4)⟩)
/-! the invariant over a packet -/
theorem sndG_n {w : WS} {t a r g : Nat} {id : Int32} (hC : cIn w t a r) (hg : g < 4) : sndG w g id = -1 ∨ ∃ c, c < w.n ∧ sndG w g id = nI c := by
  unfold sndG
  split
  · rcases tbl_rg w.p w.n (upsN (w.gs g).1 8) w.ks w.wt (slfN id w.p) (slfN_lt (by have := szN_rg _ hC.1; omega)) with q | ⟨c, hc, -, q⟩
    · exact Or.inl q
    · exact Or.inr ⟨c, hc, q⟩
  · unfold kgl
    split
    · exact Or.inl rfl
    · next j hj =>
      obtain ⟨e, he, -⟩ := fix_some hj
      obtain ⟨c, hc, hce⟩ := ((hC.2.2.2.2.2.2 g hg).2.2.2.2.2 e (List.mem_of_getElem? he)).2.1
      rw [goE_at he, hce]
      split
      · exact Or.inl rfl
      · exact Or.inr ⟨c, hc, rfl⟩
theorem cIn.setM {w : WS} {t a r g : Nat} {l : List E3} (hC : cIn w t a r) (hS : Srt l) (hl : l.length ≤ r) (he : ∀ e ∈ l, eOk w.n t a e) : cIn (setM w g l) t a r := by
  obtain ⟨hp, hn, hw, ha, hr, hck, hg⟩ := hC
  refine ⟨hp, hn, hw, ha, hr, hck, fun j hj => ?_⟩
  obtain ⟨x, y, z, u, v, o⟩ := hg j hj
  obtain ⟨s1, s2, s3⟩ := setM_g3 (w := w) (g := g) (l := l) j
  refine ⟨by rw [s1]; exact x, by rw [s3]; exact y, by rw [s2, s3]; exact z, ?_⟩
  rw [setM_gs]
  by_cases hjg : j = g
  · rw [if_pos hjg]; exact ⟨hS, hl, he⟩
  · rw [if_neg hjg]; exact ⟨u, v, o⟩
theorem sub_in {n r t a : Nat} {l l' : List E3} (hs : l'.Sublist l) (h : Srt l ∧ l.length ≤ r ∧ ∀ e ∈ l, eOk n t a e) : Srt l' ∧ l'.length ≤ r ∧ ∀ e ∈ l', eOk n t a e :=
  ⟨h.1.sub hs, Nat.le_trans hs.length_le h.2.1, fun e he => h.2.2 e (hs.subset he)⟩
theorem cIn.snd {w : WS} {t a r g : Nat} {id : Int32} (hC : cIn w t a r) (hg : g < 4) (hid : ∃ i, i ≤ 9999 ∧ id = nI i) : cIn (sndW w g id) t a r := by
  have hG := (hC.2.2.2.2.2.2 g hg).2.2.2
  have hr := hC.2.2.2.2.1
  rw [sndW_set]
  have key : Srt (sndE w g id) ∧ (sndE w g id).length ≤ r ∧ ∀ e ∈ sndE w g id, eOk w.n t a e := by
    unfold sndE
    by_cases hto : sndG w g id = -1
    · rw [if_pos hto]
      cases hf : fix id (w.gs g).2.2.2 with
      | none => exact hG
      | some j => exact sub_in (List.eraseIdx_sublist _ _) hG
    · rw [if_neg hto]
      have hnew : eOk w.n t a (id, sndG w g id, w.ck) := by
        rcases sndG_n (id := id) hC hg with q | ⟨c, hc, q⟩
        · exact absurd q hto
        · exact ⟨hid, ⟨c, hc, q⟩, t, Nat.le_refl _, by omega, hC.2.2.2.2.2.1.1⟩
      unfold putL
      cases hf : fix id (w.gs g).2.2.2 with
      | some j =>
        obtain ⟨e, he, hide⟩ := fix_some hf
        refine ⟨set_srt hG.1 he hide.symm, by show (List.set _ _ _).length ≤ r; rw [List.length_set]; exact hG.2.1, fun x hx => ?_⟩
        rcases List.mem_or_eq_of_mem_set hx with q | q
        · exact hG.2.2 x q
        · rw [q]; exact hnew
      | none =>
        show Srt (insL (shrL (w.rm - 1) 16 (w.gs g).2.2.2) (id, sndG w g id, w.ck)) ∧ (insL (shrL (w.rm - 1) 16 (w.gs g).2.2.2) (id, sndG w g id, w.ck)).length ≤ r ∧ ∀ e ∈ insL (shrL (w.rm - 1) 16 (w.gs g).2.2.2) (id, sndG w g id, w.ck), eOk w.n t a e
        rw [hC.2.2.2.2.2.1.2.2, shr_room (by omega) (by omega) hG.2.1]
        have hsub : (if (w.gs g).2.2.2.length = r then (w.gs g).2.2.2.eraseIdx (eld (w.gs g).2.2.2) else (w.gs g).2.2.2).Sublist (w.gs g).2.2.2 := by
          split
          · exact List.eraseIdx_sublist _ _
          · exact List.Sublist.refl _
        have hlen : (if (w.gs g).2.2.2.length = r then (w.gs g).2.2.2.eraseIdx (eld (w.gs g).2.2.2) else (w.gs g).2.2.2).length < r := by
          split
          · next hq => rw [List.length_eraseIdx_of_lt (eld_lt (by omega))]; omega
          · have := hG.2.1; omega
        generalize (if (w.gs g).2.2.2.length = r then (w.gs g).2.2.2.eraseIdx (eld (w.gs g).2.2.2) else (w.gs g).2.2.2) = l at hsub hlen
        obtain ⟨a1, a2, a3⟩ := sub_in hsub hG
        refine ⟨ins_srt a1 (fun x hx => fix_none.mp hf x (hsub.subset hx)), by rw [ins_perm.length_eq]; show l.length + 1 ≤ r; omega, fun x hx => ?_⟩
        rcases List.mem_cons.mp (ins_perm.mem_iff.mp hx) with q | q
        · rw [q]; exact hnew
        · exact a3 x q
  exact hC.setM key.1 key.2.1 key.2.2
