theorem m1_eq (x : Int32) : x + (-1) = x - 1 := by rw [Int32.sub_eq_add_neg]
/-- what is too old goes -/
theorem n_ages {G : SG} {d t a : Nat} {h : AH} {v : MV} {f : Nat → Int32} {es : Nat → List E3} (h5 : MoAt h v) (h6 : RoAt h f) (hM : MLs f es) (h2 : f 2 = nI t) (h4 : f 4 = nI a) (ht : t < 2 ^ 30) (ha : a ≤ 99) (hT : ∀ g, g < 4 → ∀ e ∈ es g, ∃ t', t' < 2 ^ 30 ∧ e.2.2 = nI t') : SW G mX9_ages (d + 2) 0 0 0 [.ref 75, .retAddr 0, .retAddr 0] [] h (fun r h' => r = none ∧ SameR h h' ∧ ∃ f', RoAt h' f' ∧ MLs f' (fun g => keepL (nI t - nI a) (es g)) ∧ MGA f f') := by
  have i53 : ∀ {b : Nat}, (53 : Int32) + nI b = nI (53 + b) := ix2 (a := 53)
  have outer : ∀ (c i : Nat) (g1 : AH) (f1 : Nat → Int32) (v2 : Value), i + c = 4 → SameR h g1 → RoAt g1 f1 → MLs f1 (fun g => if g < i then keepL (nI t - nI a) (es g) else es g) → MGA f f1 → SW G mX9_ages (d + 2) 0 0 2 [.ref 75, .int (nI i), v2] [] g1 (fun r h' => r = none ∧ SameR h h' ∧ ∃ f', RoAt h' f' ∧ MLs f' (fun g => keepL (nI t - nI a) (es g)) ∧ MGA f f') := by
    intro c
    induction c with
    | zero =>
      intro i g1 f1 v2 hi hS h6 hM hA
      have : i = 4 := by omega
      subst this
      refine sw_iload_n dX9_ages_2 rfl ?_
      refine sw_iconst (v := 4) dX9_ages_3 (by decide) ?_
      refine sw_cmpge (tgt := 63) dX9_ages_4 (by decide) (fun hc => ?_) (fun hc => ?_)
      · exact sw_return dX9_ages_63 rfl (⟨rfl, hS, f1, h6, hM.cg (fun g hg => if_pos hg), hA⟩)
      · exact absurd (nI_le (a := 4) (b := 4) (Nat.le_refl _) (by omega)) hc
    | succ c ih =>
      intro i g1 f1 v2 hi hS h6 hM hA
      obtain ⟨ms, hML, hP⟩ := hM i (by omega)
      have hP : ms.Perm (es i) := by
        have q : ms.Perm (if i < i then keepL (nI t - nI a) (es i) else es i) := hP
        rw [if_neg (Nat.lt_irrefl i)] at q
        exact q
      have hTm : ∀ e ∈ ms, ∃ t', t' < 2 ^ 30 ∧ e.2.2 = nI t' := fun e he => hT i (by omega) e (hP.mem_iff.mp he)
      have inner : ∀ (k : Nat) (g2 : AH) (f2 : Nat → Int32) (l2 : List E3), k ≤ ms.length → SameR h g2 → RoAt g2 f2 → ML f2 i (ms.take k ++ l2) → l2.Perm (keepL (nI t - nI a) (ms.drop k)) → MG f1 f2 i → SW G mX9_ages (d + 2) 0 0 19 [.ref 75, .int (nI i), .int (nI k - 1)] [] g2 (fun r h' => r = none ∧ SameR h h' ∧ ∃ f', RoAt h' f' ∧ MLs f' (fun g => keepL (nI t - nI a) (es g)) ∧ MGA f f') := by
        intro k
        induction k with
        | zero =>
          intro g2 f2 l2 hk hS2 h62 hML2 hP2 hG2
          refine sw_iload_n dX9_ages_19 rfl ?_
          refine sw_iflt (tgt := 57) dX9_ages_20 (by decide) (fun hc => ?_) (fun hc => ?_)
          · refine sw_iinc (v := nI (i + 1)) dX9_ages_57 rfl (nI_1 i) (by decide) rfl ?_
            refine sw_goto (tgt := 2) dX9_ages_60 (by decide) ?_
            refine ih (i + 1) g2 f2 _ (by omega) hS2 h62 ?_ (hA.tr (hG2.A (by omega)))
            have := hM.upd (by omega) hML2 hG2 (l := keepL (nI t - nI a) (es i)) (by rw [List.take_zero, List.nil_append]; exact hP2.trans (by rw [List.drop_zero]; exact hP.filter _))
            refine this.cg (fun g hg => ?_)
            by_cases hgi : g = i
            · subst hgi; rw [if_pos rfl, if_pos (by omega)]
            · rw [if_neg hgi]
              by_cases h3 : g < i
              · rw [if_pos h3, if_pos (by omega)]
              · rw [if_neg h3, if_neg (by omega)]
          · exact absurd (by decide) hc
        | succ k ihk =>
          intro g2 f2 l2 hk hS2 h62 hML2 hP2 hG2
          have h5 : MoAt g2 v := (hS2.2 75 (by omega)).trans h5
          have e2 : f2 2 = nI t := by rw [hG2 2 (by omega) (by omega) (by omega) (by omega), hA 2 (by omega)]; exact h2
          have e4 : f2 4 = nI a := by rw [hG2 4 (by omega) (by omega) (by omega) (by omega), hA 4 (by omega)]; exact h4
          have hge := gE_get (ms := ms) (i := k) (by omega)
          obtain ⟨t', ht', hte⟩ := hTm _ (List.mem_of_getElem? hge)
          have hcur : ms.take (k + 1) ++ l2 = ms.take k ++ gE ms k :: l2 := by
            rw [List.take_add_one, hge]
            simp
          have hlk : (ms.take k).length = k := by rw [List.length_take]; omega
          have hat : (ms.take (k + 1) ++ l2)[k]? = some (gE ms k) := by
            rw [hcur, List.getElem?_append_right (by omega), hlk, Nat.sub_self]
            rfl
          have hdr : ms.drop k = gE ms k :: ms.drop (k + 1) := by
            obtain ⟨a, b⟩ := List.getElem?_eq_some_iff.mp hge
            rw [← b, List.getElem_cons_drop]
          obtain ⟨q1, q2, q3⟩ := hML2.2.2 k _ hat
          have h16 := hML.2.1
          have keepIff : (gE ms k).2.2 < nI t - nI a ↔ ¬ nI t - (gE ms k).2.2 ≤ nI a := by
            rw [hte, Int32.lt_iff_toInt_lt, Int32.le_iff_toInt_le, pk_sub_toInt ht (by omega), pk_sub_toInt ht ht', nI_toInt (by omega), nI_toInt (by omega)]
            omega
          rw [nI_pred]
          refine sw_iload_n dX9_ages_19 rfl ?_
          refine sw_iflt (tgt := 57) dX9_ages_20 (by decide) (fun hc => ?_) (fun hc => ?_)
          · exact absurd hc (nI_pos (by omega))
          · refine sw_aload_n dX9_ages_23 rfl ?_
            refine sw_getf dX9_ages_24 fl_X9_7 (h5) rfl ?_
            refine sw_iconst (v := 2) dX9_ages_27 (by decide) ?_
            refine sw_iald dX9_ages_28 (h62) (vp_in_nI (n := 2) (by omega) (by omega)) (e2) ?_
            refine sw_aload_n dX9_ages_29 rfl ?_
            refine sw_iload_n dX9_ages_30 rfl ?_
            refine sw_iload_n dX9_ages_31 rfl ?_
            refine sw_pcv2 dX9_ages_32 cv_X9_80 (rc_of h5 rfl) (n_whenOf (g := i) (b := k) h5 h62 (by omega) (by omega)) ?_
            rw [q3]
            refine sw_isub dX9_ages_35 ?_
            refine sw_aload_n dX9_ages_36 rfl ?_
            refine sw_getf dX9_ages_37 fl_X9_7 (h5) rfl ?_
            refine sw_iconst (v := 4) dX9_ages_40 (by decide) ?_
            refine sw_iald dX9_ages_41 (h62) (vp_in_nI (n := 4) (by omega) (by omega)) (e4) ?_
            refine sw_cmple (tgt := 51) dX9_ages_42 (by decide) (fun hq => ?_) (fun hq => ?_)
            · refine sw_iinc (v := nI k - 1) dX9_ages_51 rfl (m1_eq _) (by decide) rfl ?_
              refine sw_goto (tgt := 19) dX9_ages_54 (by decide) ?_
              refine ihk g2 f2 (gE ms k :: l2) (by omega) hS2 h62 (by rw [← hcur]; exact hML2) ?_ hG2
              rw [hdr]
              unfold keepL at hP2 ⊢
              rw [List.filter_cons_of_pos (by simp only [Bool.not_eq_true', decide_eq_false_iff_not]; exact fun x => keepIff.mp x hq)]
              exact hP2.cons _
            · refine sw_aload_n dX9_ages_45 rfl ?_
              refine sw_iload_n dX9_ages_46 rfl ?_
              refine sw_iload_n dX9_ages_47 rfl ?_
              refine sw_cv2 dX9_ages_48 cv_X9_83 (rc_of h5 rfl) (n_forgets (g := i) (k := k) h5 h62 (by omega) hML2 (by rw [List.length_append, List.length_take]; omega)) (fun r g3 hr => ?_)
              obtain ⟨rfl, hS3, f3, h63, hML3, hG3⟩ := hr
              refine sw_iinc (v := nI k - 1) dX9_ages_51 rfl (m1_eq _) (by decide) rfl ?_
              refine sw_goto (tgt := 19) dX9_ages_54 (by decide) ?_
              obtain ⟨l3, e3, p3⟩ := swp_mid (ms.take k) l2 (gE ms k)
              rw [hlk] at e3
              rw [hcur, e3] at hML3
              refine ihk g3 f3 l3 (by omega) (hS2.tr hS3) h63 hML3 ?_ (hG2.tr hG3)
              rw [hdr]
              unfold keepL at hP2 ⊢
              rw [List.filter_cons_of_neg (by simp only [Bool.not_eq_true', decide_eq_false_iff_not, Classical.not_not]; exact keepIff.mpr hq)]
              exact p3.trans hP2
      have h5 : MoAt g1 v := (hS.2 75 (by omega)).trans h5
      refine sw_iload_n dX9_ages_2 rfl ?_
      refine sw_iconst (v := 4) dX9_ages_3 (by decide) ?_
      refine sw_cmpge (tgt := 63) dX9_ages_4 (by decide) (fun hc => ?_) (fun hc => ?_)
      · exact absurd hc (nI_ge (b := 4) (by omega) (by omega))
      · refine sw_aload_n dX9_ages_7 rfl ?_
        refine sw_getf dX9_ages_8 fl_X9_7 (h5) rfl ?_
        refine sw_bipush (v := 53) dX9_ages_11 (by decide) ?_
        refine sw_iload_n dX9_ages_13 rfl ?_
        refine sw_iadd dX9_ages_14 ?_
        refine sw_iald dX9_ages_15 (h6) (wi i53 (by omega) (by omega)) (wv i53 (by omega) hML.1) ?_
        refine sw_iconst (v := 1) dX9_ages_16 (by decide) ?_
        refine sw_isub dX9_ages_17 ?_
        refine sw_istore_n dX9_ages_18 (by decide) rfl ?_
        exact inner ms.length g1 f1 [] (Nat.le_refl _) hS h6 (by rw [List.take_length, List.append_nil]; exact hML) (by rw [List.drop_length]; exact List.Perm.refl _) MG.rf
  refine sw_iconst (v := 0) dX9_ages_0 (by decide) ?_
  refine sw_istore_n dX9_ages_1 (by decide) rfl ?_
  exact outer 4 0 h f _ rfl SameR.rf h6 (hM.cg (fun g hg => by rw [if_neg (by omega)])) MGA.rf
