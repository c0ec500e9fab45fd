/-- what has no room goes -/
theorem n_fits {G : SG} {d r : Nat} {h : AH} {v : MV} {f : Nat → Int32} {es : Nat → List E3} (h5 : MoAt h v) (h6 : RoAt h f) (hM : MLs f es) (h3 : f 3 = nI r) (hr1 : r < 2 ^ 31) (hE : ∀ g, g < 4 → Srt (es g)) : SW G mX9_fits (d + 2) 0 0 0 [.ref 75, .retAddr 0] [] h (fun r' h' => r' = none ∧ SameR h h' ∧ ∃ f', RoAt h' f' ∧ MLs f' (fun g => shrL (nI r) 16 (es g)) ∧ MGA f f') := by
  have i53 : ∀ {b : Nat}, (53 : Int32) + nI b = nI (53 + b) := ix2 (a := 53)
  have outer : ∀ (c i : Nat) (g1 : AH) (f1 : Nat → Int32), i + c = 4 → SameR h g1 → RoAt g1 f1 → MLs f1 (fun g => if g < i then shrL (nI r) 16 (es g) else es g) → MGA f f1 → SW G mX9_fits (d + 2) 0 0 2 [.ref 75, .int (nI i)] [] g1 (fun r' h' => r' = none ∧ SameR h h' ∧ ∃ f', RoAt h' f' ∧ MLs f' (fun g => shrL (nI r) 16 (es g)) ∧ MGA f f') := by
    intro c
    induction c with
    | zero =>
      intro i g1 f1 hi hS h6 hM hA
      have : i = 4 := by omega
      subst this
      refine sw_iload_n dX9_fits_2 rfl ?_
      refine sw_iconst (v := 4) dX9_fits_3 (by decide) ?_
      refine sw_cmpge (tgt := 44) dX9_fits_4 (by decide) (fun hc => ?_) (fun hc => ?_)
      · exact sw_return dX9_fits_44 rfl (⟨rfl, hS, f1, h6, hM.cg (fun g hg => if_pos hg), hA⟩)
      · exact absurd (nI_le (a := 4) (b := 4) (Nat.le_refl _) (by omega)) hc
    | succ c ih =>
      intro i g1 f1 hi hS h6 hM hA
      obtain ⟨ms, hML, hP⟩ := hM i (by omega)
      have hP : ms.Perm (es i) := by
        have q : ms.Perm (if i < i then shrL (nI r) 16 (es i) else es i) := hP
        rw [if_neg (Nat.lt_irrefl i)] at q
        exact q
      have inner : ∀ (k : Nat) (g2 : AH) (f2 : Nat → Int32) (m2 e2 : List E3), m2.length ≤ k → shrL (nI r) k e2 = shrL (nI r) 16 (es i) → SameR h g2 → RoAt g2 f2 → ML f2 i m2 → m2.Perm e2 → Srt e2 → MG f1 f2 i → SW G mX9_fits (d + 2) 0 0 7 [.ref 75, .int (nI i)] [] g2 (fun r' h' => r' = none ∧ SameR h h' ∧ ∃ f', RoAt h' f' ∧ MLs f' (fun g => shrL (nI r) 16 (es g)) ∧ MGA f f') := by
        intro k
        induction k with
        | zero =>
          intro g2 f2 m2 e2 hk he hS2 h62 hML2 hP2 hSe hG2
          have h5 : MoAt g2 v := (hS2.2 75 (by omega)).trans h5
          have e3 : f2 3 = nI r := by rw [hG2 3 (by omega) (by omega) (by omega) (by omega), hA 3 (by omega)]; exact h3
          have hz : m2.length = 0 := by omega
          refine sw_aload_n dX9_fits_7 rfl ?_
          refine sw_getf dX9_fits_8 fl_X9_7 (h5) rfl ?_
          refine sw_bipush (v := 53) dX9_fits_11 (by decide) ?_
          refine sw_iload_n dX9_fits_13 rfl ?_
          refine sw_iadd dX9_fits_14 ?_
          refine sw_iald dX9_fits_15 (h62) (wi i53 (by omega) (by omega)) (wv i53 (by omega) hML2.1) ?_
          refine sw_aload_n dX9_fits_16 rfl ?_
          refine sw_getf dX9_fits_17 fl_X9_7 (h5) rfl ?_
          refine sw_iconst (v := 3) dX9_fits_20 (by decide) ?_
          refine sw_iald dX9_fits_21 (h62) (vp_in_nI (n := 3) (by omega) (by omega)) (e3) ?_
          refine sw_cmple (tgt := 38) dX9_fits_22 (by decide) (fun hc => ?_) (fun hc => ?_)
          · refine sw_iinc (v := nI (i + 1)) dX9_fits_38 rfl (nI_1 i) (by decide) rfl ?_
            refine sw_goto (tgt := 2) dX9_fits_41 (by decide) ?_
            refine ih (i + 1) g2 f2 (by omega) hS2 h62 ?_ (hA.tr (hG2.A (by omega)))
            have := hM.upd (by omega) hML2 hG2 (l := shrL (nI r) 16 (es i)) (by rw [← he]; exact hP2)
            refine this.cg (fun g hg => ?_)
            by_cases hgi : g = i
            · subst hgi; rw [if_pos rfl, if_pos (by omega)]
            · rw [if_neg hgi]
              by_cases h3 : g < i
              · rw [if_pos h3, if_pos (by omega)]
              · rw [if_neg h3, if_neg (by omega)]
          · exact absurd (by rw [hz]; exact nI_le (by omega) hr1) hc
        | succ k ihk =>
          intro g2 f2 m2 e2 hk he hS2 h62 hML2 hP2 hSe hG2
          have h5 : MoAt g2 v := (hS2.2 75 (by omega)).trans h5
          have e3 : f2 3 = nI r := by rw [hG2 3 (by omega) (by omega) (by omega) (by omega), hA 3 (by omega)]; exact h3
          have h16 := hML2.2.1
          refine sw_aload_n dX9_fits_7 rfl ?_
          refine sw_getf dX9_fits_8 fl_X9_7 (h5) rfl ?_
          refine sw_bipush (v := 53) dX9_fits_11 (by decide) ?_
          refine sw_iload_n dX9_fits_13 rfl ?_
          refine sw_iadd dX9_fits_14 ?_
          refine sw_iald dX9_fits_15 (h62) (wi i53 (by omega) (by omega)) (wv i53 (by omega) hML2.1) ?_
          refine sw_aload_n dX9_fits_16 rfl ?_
          refine sw_getf dX9_fits_17 fl_X9_7 (h5) rfl ?_
          refine sw_iconst (v := 3) dX9_fits_20 (by decide) ?_
          refine sw_iald dX9_fits_21 (h62) (vp_in_nI (n := 3) (by omega) (by omega)) (e3) ?_
          refine sw_cmple (tgt := 38) dX9_fits_22 (by decide) (fun hc => ?_) (fun hc => ?_)
          · rw [shrL, if_pos (by rw [← hP2.length_eq]; exact hc)] at he
            refine sw_iinc (v := nI (i + 1)) dX9_fits_38 rfl (nI_1 i) (by decide) rfl ?_
            refine sw_goto (tgt := 2) dX9_fits_41 (by decide) ?_
            refine ih (i + 1) g2 f2 (by omega) hS2 h62 ?_ (hA.tr (hG2.A (by omega)))
            have := hM.upd (by omega) hML2 hG2 (l := shrL (nI r) 16 (es i)) (by rw [← he]; exact hP2)
            refine this.cg (fun g hg => ?_)
            by_cases hgi : g = i
            · subst hgi; rw [if_pos rfl, if_pos (by omega)]
            · rw [if_neg hgi]
              by_cases h3 : g < i
              · rw [if_pos h3, if_pos (by omega)]
              · rw [if_neg h3, if_neg (by omega)]
          · rw [shrL, if_neg (by rw [← hP2.length_eq]; exact hc)] at he
            have hpos : 0 < m2.length := by
              rcases Nat.eq_zero_or_pos m2.length with z | z
              · rw [z] at hc; exact absurd (nI_le (by omega) hr1) hc
              · exact z
            have hlt := eldM_lt hpos
            obtain ⟨e, he1, he2⟩ := eld_same hP2 hSe (by rw [← hP2.length_eq]; exact hpos)
            refine sw_aload_n dX9_fits_25 rfl ?_
            refine sw_iload_n dX9_fits_26 rfl ?_
            refine sw_aload_n dX9_fits_27 rfl ?_
            refine sw_iload_n dX9_fits_28 rfl ?_
            refine sw_pcv1 dX9_fits_29 cv_X9_86 (rc_of h5 rfl) (n_eldest (g := i) h5 h62 (by omega) hML2) ?_
            refine sw_cv2 dX9_fits_32 cv_X9_83 (rc_of h5 rfl) (n_forgets (g := i) (k := eldM m2) h5 h62 (by omega) hML2 hlt) (fun r' g3 hr => ?_)
            obtain ⟨rfl, hS3, f3, h63, hML3, hG3⟩ := hr
            refine sw_goto (tgt := 7) dX9_fits_35 (by decide) ?_
            exact ihk g3 f3 _ _ (by rw [swp_len]; omega) he (hS2.tr hS3) h63 hML3 (forget_perm hP2 he1 he2) (hSe.sub (List.eraseIdx_sublist _ _)) (hG2.tr hG3)
      refine sw_iload_n dX9_fits_2 rfl ?_
      refine sw_iconst (v := 4) dX9_fits_3 (by decide) ?_
      refine sw_cmpge (tgt := 44) dX9_fits_4 (by decide) (fun hc => ?_) (fun hc => ?_)
      · exact absurd hc (nI_ge (b := 4) (by omega) (by omega))
      · refine inner 16 g1 f1 ms (es i) hML.2.1 rfl hS h6 hML hP (hE i (by omega)) MG.rf
  refine sw_iconst (v := 0) dX9_fits_0 (by decide) ?_
  refine sw_istore_n dX9_fits_1 (by decide) rfl ?_
  exact outer 4 0 h f rfl SameR.rf h6 (hM.cg (fun g hg => by rw [if_neg (by omega)])) MGA.rf
