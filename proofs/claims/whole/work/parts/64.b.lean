theorem n_eldest {G : SG} {d g : Nat} {h : AH} {v : MV} {f : Nat → Int32} {ms : List E3} (h5 : MoAt h v) (h6 : RoAt h f) (hg : g < 4) (hM : ML f g ms) : SW G mX9_eldest (d + 1) 0 0 0 [.ref 75, .int (nI g), .retAddr 0, .retAddr 0, .retAddr 0] [] h (fun r h' => r = some (.int (nI (eldM ms))) ∧ h' = h) := by
  obtain ⟨hl, h16, hm⟩ := id hM
  have i53 : ∀ {b : Nat}, (53 : Int32) + nI b = nI (53 + b) := ix2 (a := 53)
  have loop : ∀ (c i b : Nat) (v4 : Value), (i + c = ms.length ∨ (c = 0 ∧ ms.length ≤ i)) → i ≤ 17 → b < i → (0 < c → b < ms.length) → elm ms c i b = eldM ms → SW G mX9_eldest (d + 1) 0 0 4 [.ref 75, .int (nI g), .int (nI b), .int (nI i), v4] [] h (fun r h' => r = some (.int (nI (eldM ms))) ∧ h' = h) := by
    intro c
    induction c with
    | zero =>
      intro i b v4 hi hi17 hb _ he
      refine sw_iload_n dX9_eldest_4 rfl ?_
      refine sw_aload_n dX9_eldest_5 rfl ?_
      refine sw_getf dX9_eldest_6 fl_X9_7 (h5) rfl ?_
      refine sw_bipush (v := 53) dX9_eldest_9 (by decide) ?_
      refine sw_iload_n dX9_eldest_11 rfl ?_
      refine sw_iadd dX9_eldest_12 ?_
      refine sw_iald dX9_eldest_13 (h6) (wi i53 (by omega) (by omega)) (wv i53 (by omega) hl) ?_
      refine sw_cmpge (tgt := 86) dX9_eldest_14 (by decide) (fun hc => ?_) (fun hc => ?_)
      · refine sw_iload_n dX9_eldest_86 rfl ?_
        exact sw_ireturn dX9_eldest_87 rfl rfl (⟨by rw [← he]; rfl, rfl⟩)
      · exact absurd (nI_le (by omega) (by omega)) hc
    | succ c ih =>
      intro i b v4 hi hi17 hb hbl he
      have hbl := hbl (by omega)
      have hil : i < ms.length := by omega
      obtain ⟨a1, a2, a3⟩ := hm i _ (gE_get hil)
      obtain ⟨b1, b2, b3⟩ := hm b _ (gE_get hbl)
      have fin : ∀ (b' : Nat) (x : Int32), (x = 0 ∧ b' = b ∨ x = 1 ∧ b' = i) → elm ms c (i + 1) b' = eldM ms → SW G mX9_eldest (d + 1) 0 0 67 [.ref 75, .int (nI g), .int (nI b), .int (nI i), v4] [.int x] h (fun r h' => r = some (.int (nI (eldM ms))) ∧ h' = h) := by
        intro b' x hx he'
        refine sw_istore dX9_eldest_67 (by decide) rfl ?_
        refine sw_iload dX9_eldest_69 rfl ?_
        refine sw_ifeq (tgt := 78) dX9_eldest_71 (by decide) (fun hx0 => ?_) (fun hx0 => ?_)
        · have : b' = b := by rcases hx with q | q
                              · exact q.2
                              · rw [q.1] at hx0; exact absurd hx0 (by decide)
          subst this
          refine sw_iload_n dX9_eldest_78 rfl ?_
          refine sw_istore_n dX9_eldest_79 (by decide) rfl ?_
          refine sw_iinc (v := nI (i + 1)) dX9_eldest_80 rfl (nI_1 i) (by decide) rfl ?_
          refine sw_goto (tgt := 4) dX9_eldest_83 (by decide) ?_
          exact ih (i + 1) b' _ (by omega) (by omega) (by omega) (fun _ => by omega) he'
        · have : b' = i := by rcases hx with q | q
                              · exact absurd q.1 hx0
                              · exact q.2
          subst this
          refine sw_iload_n dX9_eldest_74 rfl ?_
          refine sw_goto (tgt := 79) dX9_eldest_75 (by decide) ?_
          refine sw_istore_n dX9_eldest_79 (by decide) rfl ?_
          refine sw_iinc (v := nI (b' + 1)) dX9_eldest_80 rfl (nI_1 b') (by decide) rfl ?_
          refine sw_goto (tgt := 4) dX9_eldest_83 (by decide) ?_
          exact ih (b' + 1) b' _ (by omega) (by omega) (by omega) (fun _ => by omega) he'
      have yes : ((gE ms i).2.2 < (gE ms b).2.2 ∨ ((gE ms i).2.2 = (gE ms b).2.2 ∧ (gE ms i).1 < (gE ms b).1)) → SW G mX9_eldest (d + 1) 0 0 62 [.ref 75, .int (nI g), .int (nI b), .int (nI i), v4] [] h (fun r h' => r = some (.int (nI (eldM ms))) ∧ h' = h) := by
        intro ho
        rw [elm, if_pos ho] at he
        refine sw_iconst (v := 1) dX9_eldest_62 (by decide) ?_
        refine sw_goto (tgt := 67) dX9_eldest_63 (by decide) ?_
        exact fin i 1 (Or.inr ⟨rfl, rfl⟩) he
      have no : ¬ ((gE ms i).2.2 < (gE ms b).2.2 ∨ ((gE ms i).2.2 = (gE ms b).2.2 ∧ (gE ms i).1 < (gE ms b).1)) → SW G mX9_eldest (d + 1) 0 0 66 [.ref 75, .int (nI g), .int (nI b), .int (nI i), v4] [] h (fun r h' => r = some (.int (nI (eldM ms))) ∧ h' = h) := by
        intro ho
        rw [elm, if_neg ho] at he
        refine sw_iconst (v := 0) dX9_eldest_66 (by decide) ?_
        exact fin b 0 (Or.inl ⟨rfl, rfl⟩) he
      refine sw_iload_n dX9_eldest_4 rfl ?_
      refine sw_aload_n dX9_eldest_5 rfl ?_
      refine sw_getf dX9_eldest_6 fl_X9_7 (h5) rfl ?_
      refine sw_bipush (v := 53) dX9_eldest_9 (by decide) ?_
      refine sw_iload_n dX9_eldest_11 rfl ?_
      refine sw_iadd dX9_eldest_12 ?_
      refine sw_iald dX9_eldest_13 (h6) (wi i53 (by omega) (by omega)) (wv i53 (by omega) hl) ?_
      refine sw_cmpge (tgt := 86) dX9_eldest_14 (by decide) (fun hc => ?_) (fun hc => ?_)
      · exact absurd hc (nI_ge (by omega) (by omega))
      · refine sw_aload_n dX9_eldest_17 rfl ?_
        refine sw_iload_n dX9_eldest_18 rfl ?_
        refine sw_iload_n dX9_eldest_19 rfl ?_
        refine sw_pcv2 dX9_eldest_20 cv_X9_80 (rc_of h5 rfl) (n_whenOf (g := g) (b := i) h5 h6 hg (by omega)) ?_
        refine sw_aload_n dX9_eldest_23 rfl ?_
        refine sw_iload_n dX9_eldest_24 rfl ?_
        refine sw_iload_n dX9_eldest_25 rfl ?_
        refine sw_pcv2 dX9_eldest_26 cv_X9_80 (rc_of h5 rfl) (n_whenOf (g := g) (b := b) h5 h6 hg (by omega)) ?_
        rw [a3, b3]
        refine sw_cmplt (tgt := 62) dX9_eldest_29 (by decide) (fun q1 => ?_) (fun q1 => ?_)
        · exact yes (Or.inl q1)
        · refine sw_aload_n dX9_eldest_32 rfl ?_
          refine sw_iload_n dX9_eldest_33 rfl ?_
          refine sw_iload_n dX9_eldest_34 rfl ?_
          refine sw_pcv2 dX9_eldest_35 cv_X9_80 (rc_of h5 rfl) (n_whenOf (g := g) (b := i) h5 h6 hg (by omega)) ?_
          refine sw_aload_n dX9_eldest_38 rfl ?_
          refine sw_iload_n dX9_eldest_39 rfl ?_
          refine sw_iload_n dX9_eldest_40 rfl ?_
          refine sw_pcv2 dX9_eldest_41 cv_X9_80 (rc_of h5 rfl) (n_whenOf (g := g) (b := b) h5 h6 hg (by omega)) ?_
          rw [a3, b3]
          refine sw_cmpne (tgt := 66) dX9_eldest_44 (by decide) (fun q2 => ?_) (fun q2 => ?_)
          · exact no (fun q => q.elim q1 (fun x => q2 x.1))
          · refine sw_aload_n dX9_eldest_47 rfl ?_
            refine sw_iload_n dX9_eldest_48 rfl ?_
            refine sw_iload_n dX9_eldest_49 rfl ?_
            refine sw_pcv2 dX9_eldest_50 cv_X9_74 (rc_of h5 rfl) (n_flowOf (g := g) (b := i) h5 h6 hg (by omega)) ?_
            refine sw_aload_n dX9_eldest_53 rfl ?_
            refine sw_iload_n dX9_eldest_54 rfl ?_
            refine sw_iload_n dX9_eldest_55 rfl ?_
            refine sw_pcv2 dX9_eldest_56 cv_X9_74 (rc_of h5 rfl) (n_flowOf (g := g) (b := b) h5 h6 hg (by omega)) ?_
            rw [a1, b1]
            refine sw_cmpge (tgt := 66) dX9_eldest_59 (by decide) (fun q3 => ?_) (fun q3 => ?_)
            · exact no (fun q => q.elim q1 (fun x => by have a := Int32.lt_iff_toInt_lt.mp x.2; have b := Int32.le_iff_toInt_le.mp q3; omega))
            · exact yes (Or.inr ⟨q2, i_lt_of q3⟩)
  refine sw_iconst (v := 0) dX9_eldest_0 (by decide) ?_
  refine sw_istore_n dX9_eldest_1 (by decide) rfl ?_
  refine sw_iconst (v := 1) dX9_eldest_2 (by decide) ?_
  refine sw_istore_n dX9_eldest_3 (by decide) rfl ?_
  exact loop (ms.length - 1) 1 0 _ (by omega) (by omega) (by omega) (fun _ => by omega) rfl
