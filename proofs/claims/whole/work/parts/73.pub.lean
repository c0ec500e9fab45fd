/-! flows, by the reference -/
theorem n_rem {G : SG} {d T : Nat} {h : AH} {s : CS} {g x y : Int32} (hM : RM h s T) : SW G mX9_remembers (d + 11) 0 0 0 [.ref 75, .int g, .int x, .int y, .retAddr 0] [] h (fun r h' => r = some (.int (c_rem s g x y)) ∧ RM h' s T ∧ SameD h h') := by
  obtain ⟨v, f, tp, H⟩ := hM
  have h5 := H.1.1
  refine sw_aload_n dX9_remembers_0 rfl ?_
  refine sw_iconst (v := 0) dX9_remembers_1 (by decide) ?_
  refine sw_puti dX9_remembers_2 fl_X9_35 (h5) (Nat.le_of_ble_eq_true rfl) (fun g0 z0 e0 o0 => ?_)
  obtain ⟨H, D0⟩ := H.ra e0 z0 o0
  obtain ⟨⟨h5, h6, h77, hS, h83⟩, hR, ⟨t, a, r, htT, hC⟩, ⟨ev, ef⟩, hn, htp⟩ := id H
  unfold c_rem
  refine sw_iload_n dX9_remembers_5 rfl ?_
  refine sw_pcs1 dX9_remembers_6 cs_X9_125 (n_isGate) ?_
  refine sw_ifeq (tgt := 28) dX9_remembers_9 (by decide) (fun h1 => ?_) (fun h1 => ?_)
  · rw [if_neg (fun q => bz_eq0.mp h1 q.1)]
    refine sw_iconst (v := (-1)) dX9_remembers_28 (by decide) ?_
    exact sw_ireturn dX9_remembers_29 rfl rfl (⟨rfl, H.M, D0⟩)
  · have h1 := bz_eq1.mp h1
    refine sw_iload_n dX9_remembers_12 rfl ?_
    refine sw_pcs1 dX9_remembers_13 cs_X9_142 (n_isFlow) ?_
    refine sw_ifeq (tgt := 28) dX9_remembers_16 (by decide) (fun h2 => ?_) (fun h2 => ?_)
    · rw [if_neg (fun q => bz_eq0.mp h2 q.2)]
      refine sw_iconst (v := (-1)) dX9_remembers_28 (by decide) ?_
      exact sw_ireturn dX9_remembers_29 rfl rfl (⟨rfl, H.M, D0⟩)
    · have h2 := bz_eq1.mp h2
      rw [if_pos ⟨h1, h2⟩]
      obtain ⟨gi, hgi, rfl⟩ := ga_of h1
      rw [nI_clamp (by omega)]
      obtain ⟨ms, hML, hP⟩ := hR.2.2.2 gi hgi
      have hP : ms.Perm (s.1.gs gi).2.2.2 := hP
      have hG := hC.2.2.2.2.2.2 gi hgi
      have h16 := hML.2.1
      refine sw_iload_n dX9_remembers_19 rfl ?_
      refine sw_iconst (v := 0) dX9_remembers_20 (by decide) ?_
      refine sw_iconst (v := 1) dX9_remembers_21 (by decide) ?_
      refine sw_pcs3 dX9_remembers_22 cs_X9_39 (n_in) ?_
      refine sw_ifne (tgt := 30) dX9_remembers_25 (by decide) (fun h3 => ?_) (fun h3 => ?_)
      · have h3 := bz_eq1.mp h3
        have hy01 : y = 0 ∨ y = 1 := by
          obtain ⟨k, hk, rfl⟩ := nI_of2 (M := 1) (n := 1) rfl (nI_not0 h3.1) h3.2
          rcases (show k = 0 ∨ k = 1 by omega) with rfl | rfl
          · exact Or.inl rfl
          · exact Or.inr rfl
        refine sw_aload_n dX9_remembers_30 rfl ?_
        refine sw_iload_n dX9_remembers_31 rfl ?_
        refine sw_iload_n dX9_remembers_32 rfl ?_
        refine sw_pcv2 dX9_remembers_33 cv_X9_91 (rc_of h5 rfl) (n_placeOf h5 h6 hgi hML) ?_
        rw [fndL_fix]
        rcases fix_perm (id := x) hP hG.2.2.2.1 with ⟨q1, q2⟩ | ⟨j, k, e, q1, q2, q3, q4, q5⟩
        · rw [q2, q1]
          simp only []
          refine sw_istore dX9_remembers_36 (by decide) rfl ?_
          refine sw_iload dX9_remembers_38 rfl ?_
          refine sw_iconst (v := (-1)) dX9_remembers_40 (by decide) ?_
          refine sw_cmpne (tgt := 48) dX9_remembers_41 (by decide) (fun hq => ?_) (fun hq => ?_)
          · exact absurd rfl hq
          · refine sw_iconst (v := (-1)) dX9_remembers_44 (by decide) ?_
            refine sw_goto (tgt := 69) dX9_remembers_45 (by decide) ?_
            exact sw_ireturn dX9_remembers_69 rfl rfl (⟨rfl, H.M, D0⟩)
        · rw [q2, q1]
          simp only [Nat.zero_add]
          have hkl := (List.getElem?_eq_some_iff.mp q4).1
          obtain ⟨m1, m2, m3⟩ := hML.2.2 k e q4
          rw [goE_at q3, tkE_at q3]
          refine sw_istore dX9_remembers_36 (by decide) rfl ?_
          refine sw_iload dX9_remembers_38 rfl ?_
          refine sw_iconst (v := (-1)) dX9_remembers_40 (by decide) ?_
          refine sw_cmpne (tgt := 48) dX9_remembers_41 (by decide) (fun hq => ?_) (fun hq => ?_)
          · refine sw_iload_n dX9_remembers_48 rfl ?_
            refine sw_ifne (tgt := 62) dX9_remembers_49 (by decide) (fun hy => ?_) (fun hy => ?_)
            · rw [if_neg hy, if_pos (hy01.resolve_left hy)]
              refine sw_aload_n dX9_remembers_62 rfl ?_
              refine sw_iload_n dX9_remembers_63 rfl ?_
              refine sw_iload dX9_remembers_64 rfl ?_
              refine sw_pcv2 dX9_remembers_66 cv_X9_80 (rc_of h5 rfl) (n_whenOf (g := gi) (b := k) h5 h6 hgi (by omega)) ?_
              rw [m3]
              exact sw_ireturn dX9_remembers_69 rfl rfl (⟨rfl, H.M, D0⟩)
            · rw [if_pos hy]
              refine sw_aload_n dX9_remembers_52 rfl ?_
              refine sw_iload_n dX9_remembers_53 rfl ?_
              refine sw_iload dX9_remembers_54 rfl ?_
              refine sw_pcv2 dX9_remembers_56 cv_X9_77 (rc_of h5 rfl) (n_toOf (g := gi) (b := k) h5 h6 hgi (by omega)) ?_
              refine sw_goto (tgt := 69) dX9_remembers_59 (by decide) ?_
              rw [m2]
              exact sw_ireturn dX9_remembers_69 rfl rfl (⟨rfl, H.M, D0⟩)
          · exact absurd hq (nI_ne_m1 (by omega))
      · have h3 := bz_eq0.mp h3
        have hy0 : ¬ y = 0 := fun q => h3 (by rw [q]; decide)
        have hy1 : ¬ y = 1 := fun q => h3 (by rw [q]; decide)
        refine sw_iconst (v := (-1)) dX9_remembers_28 (by decide) ?_
        exact sw_ireturn dX9_remembers_29 rfl rfl (⟨by cases fix x (s.1.gs gi).2.2.2 <;> simp [hy0, hy1], H.M, D0⟩)
theorem n_flows {G : SG} {d T : Nat} {h : AH} {s : CS} {g b : Int32} (hM : RM h s T) : SW G mX9_flows (d + 11) 0 0 0 [.ref 75, .int g, .int b, .retAddr 0, .retAddr 0] [] h (fun r h' => r = some (.int (c_flows s g b)) ∧ RM h' s T ∧ SameD h h') := by
  obtain ⟨v, f, tp, H⟩ := hM
  have h5 := H.1.1
  refine sw_aload_n dX9_flows_0 rfl ?_
  refine sw_iconst (v := 0) dX9_flows_1 (by decide) ?_
  refine sw_puti dX9_flows_2 fl_X9_35 (h5) (Nat.le_of_ble_eq_true rfl) (fun g0 z0 e0 o0 => ?_)
  obtain ⟨H, D0⟩ := H.ra e0 z0 o0
  obtain ⟨⟨h5, h6, h77, hS, h83⟩, hR, ⟨t, a, r, htT, hC⟩, ⟨ev, ef⟩, hn, htp⟩ := id H
  have hn8 := hC.2.1
  have i53 : ∀ {b : Nat}, (53 : Int32) + nI b = nI (53 + b) := ix2 (a := 53)
  unfold c_flows
  refine sw_iload_n dX9_flows_5 rfl ?_
  refine sw_pcs1 dX9_flows_6 cs_X9_125 (n_isGate) ?_
  refine sw_ifeq (tgt := 25) dX9_flows_9 (by decide) (fun h1 => ?_) (fun h1 => ?_)
  · rw [if_neg (bz_eq0.mp h1)]
    refine sw_iconst (v := (-1)) dX9_flows_25 (by decide) ?_
    exact sw_ireturn dX9_flows_26 rfl rfl (⟨rfl, H.M, D0⟩)
  · have h1 := bz_eq1.mp h1
    rw [if_pos h1]
    obtain ⟨gi, hgi, rfl⟩ := ga_of h1
    rw [nI_clamp (by omega)]
    obtain ⟨ms, hML, hP⟩ := hR.2.2.2 gi hgi
    have hP : ms.Perm (s.1.gs gi).2.2.2 := hP
    have h16 := hML.2.1
    have go : ∀ R : Nat, R = ms.countP (fun e => decide (b = -1) || decide (e.2.1 = b)) → SW G mX9_flows (d + 11) 0 0 27 [.ref 75, .int (nI gi), .int b, .retAddr 0, .retAddr 0] [] g0 (fun r h' => r = some (.int (nI R)) ∧ RM h' s T ∧ SameD h h') := by
      intro R hRe
      have loop : ∀ (l : List E3) (i n : Nat), ms.drop i = l → i ≤ ms.length → n + l.countP (fun e => decide (b = -1) || decide (e.2.1 = b)) = R → SW G mX9_flows (d + 11) 0 0 32 [.ref 75, .int (nI gi), .int b, .int (nI n), .int (nI i)] [] g0 (fun r h' => r = some (.int (nI R)) ∧ RM h' s T ∧ SameD h h') := by
        intro l
        induction l with
        | nil =>
          intro i n hd hi hsum
          have := dropN hd
          have : i = ms.length := by omega
          subst this
          have : n = R := by simpa using hsum
          subst this
          refine sw_iload dX9_flows_32 rfl ?_
          refine sw_aload_n dX9_flows_34 rfl ?_
          refine sw_getf dX9_flows_35 fl_X9_7 (h5) rfl ?_
          refine sw_bipush (v := 53) dX9_flows_38 (by decide) ?_
          refine sw_iload_n dX9_flows_40 rfl ?_
          refine sw_iadd dX9_flows_41 ?_
          refine sw_iald dX9_flows_42 (h6) (wi i53 (by omega) (by omega)) (wv i53 (by omega) hML.1) ?_
          refine sw_cmpge (tgt := 76) dX9_flows_43 (by decide) (fun hc => ?_) (fun hc => ?_)
          · refine sw_iload_n dX9_flows_76 rfl ?_
            exact sw_ireturn dX9_flows_77 rfl rfl (⟨rfl, H.M, D0⟩)
          · exact absurd (nI_le (Nat.le_refl _) (by omega)) hc
        | cons e l ih =>
          intro i n hd hi hsum
          obtain ⟨hee, hd2, hil⟩ := dropC hd
          have fin : ∀ k : Nat, (n + k) + l.countP (fun e => decide (b = -1) || decide (e.2.1 = b)) = R → SW G mX9_flows (d + 11) 0 0 68 [.ref 75, .int (nI gi), .int b, .int (nI n), .int (nI i)] [.int (nI k), .int (nI n)] g0 (fun r h' => r = some (.int (nI R)) ∧ RM h' s T ∧ SameD h h') := by
            intro k hk
            refine sw_iadd dX9_flows_68 ?_
            rw [nI_add]
            refine sw_istore_n dX9_flows_69 (by decide) rfl ?_
            refine sw_iinc (v := nI (i + 1)) dX9_flows_70 rfl (nI_1 i) (by decide) rfl ?_
            refine sw_goto (tgt := 32) dX9_flows_73 (by decide) ?_
            exact ih (i + 1) (n + k) hd2 (by omega) hk
          refine sw_iload dX9_flows_32 rfl ?_
          refine sw_aload_n dX9_flows_34 rfl ?_
          refine sw_getf dX9_flows_35 fl_X9_7 (h5) rfl ?_
          refine sw_bipush (v := 53) dX9_flows_38 (by decide) ?_
          refine sw_iload_n dX9_flows_40 rfl ?_
          refine sw_iadd dX9_flows_41 ?_
          refine sw_iald dX9_flows_42 (h6) (wi i53 (by omega) (by omega)) (wv i53 (by omega) hML.1) ?_
          refine sw_cmpge (tgt := 76) dX9_flows_43 (by decide) (fun hc => ?_) (fun hc => ?_)
          · exact absurd hc (nI_ge (by omega) (by omega))
          · refine sw_iload_n dX9_flows_46 rfl ?_
            refine sw_iload_n dX9_flows_47 rfl ?_
            refine sw_iconst (v := (-1)) dX9_flows_48 (by decide) ?_
            refine sw_cmpeq (tgt := 63) dX9_flows_49 (by decide) (fun hb => ?_) (fun hb => ?_)
            · refine sw_iconst (v := 1) dX9_flows_63 (by decide) ?_
              refine sw_goto (tgt := 68) dX9_flows_64 (by decide) ?_
              refine fin 1 ?_
              rw [List.countP_cons_of_pos (by simp [hb])] at hsum
              omega
            · refine sw_aload_n dX9_flows_52 rfl ?_
              refine sw_iload_n dX9_flows_53 rfl ?_
              refine sw_iload dX9_flows_54 rfl ?_
              refine sw_pcv2 dX9_flows_56 cv_X9_77 (rc_of h5 rfl) (n_toOf (g := gi) (b := i) h5 h6 hgi (by omega)) ?_
              rw [(hML.2.2 i e hee).2.1]
              refine sw_iload_n dX9_flows_59 rfl ?_
              refine sw_cmpne (tgt := 67) dX9_flows_60 (by decide) (fun he => ?_) (fun he => ?_)
              · refine sw_iconst (v := 0) dX9_flows_67 (by decide) ?_
                refine fin 0 ?_
                rw [List.countP_cons_of_neg (by simp [hb, he])] at hsum
                exact hsum
              · refine sw_iconst (v := 1) dX9_flows_63 (by decide) ?_
                refine sw_goto (tgt := 68) dX9_flows_64 (by decide) ?_
                refine fin 1 ?_
                rw [List.countP_cons_of_pos (by simp [he])] at hsum
                omega
      refine sw_iconst (v := 0) dX9_flows_27 (by decide) ?_
      refine sw_istore_n dX9_flows_28 (by decide) rfl ?_
      refine sw_iconst (v := 0) dX9_flows_29 (by decide) ?_
      refine sw_istore dX9_flows_30 (by decide) rfl ?_
      exact loop ms 0 0 rfl (by omega) (by rw [hRe, Nat.zero_add])
    refine sw_iload_n dX9_flows_12 rfl ?_
    refine sw_iconst (v := (-1)) dX9_flows_13 (by decide) ?_
    refine sw_cmpeq (tgt := 27) dX9_flows_14 (by decide) (fun h2 => ?_) (fun h2 => ?_)
    · rw [if_pos h2]
      refine go _ ?_
      rw [← hP.length_eq, List.countP_eq_length.mpr (fun e _ => by simp [h2])]
    · refine sw_aload_n dX9_flows_17 rfl ?_
      refine sw_iload_n dX9_flows_18 rfl ?_
      refine sw_pcv1 dX9_flows_19 cv_X9_122 (rc_of h5 rfl) (n_isBack h5 h6 hR.1.2.1 (by omega)) ?_
      refine sw_ifne (tgt := 27) dX9_flows_22 (by decide) (fun h3 => ?_) (fun h3 => ?_)
      · rw [if_neg h2, if_pos (bz_eq1.mp h3)]
        refine go _ ?_
        unfold cntL
        rw [← hP.countP_eq]
        congr 1
        funext e
        simp [h2]
      · rw [if_neg h2, if_neg (bz_eq0.mp h3)]
        refine sw_iconst (v := (-1)) dX9_flows_25 (by decide) ?_
        exact sw_ireturn dX9_flows_26 rfl rfl (⟨rfl, H.M, D0⟩)
/-! the k-th flow -/
def lstF (at_ : Int32) : List E3 → Int32 → Int32
  | [], m => m
  | e :: l, m => lstF at_ l (if at_ < e.1 ∧ e.1 < m then e.1 else m)
theorem lstF_le (at_ : Int32) : ∀ (l : List E3) (m : Int32), lstF at_ l m ≤ m ∧ (∀ e ∈ l, at_ < e.1 → lstF at_ l m ≤ e.1) ∧ (lstF at_ l m = m ∨ ∃ e ∈ l, at_ < e.1 ∧ lstF at_ l m = e.1) := by
  intro l
  induction l with
  | nil => intro m; exact ⟨i_nlt (i_irr _), fun e he => (by cases he), Or.inl rfl⟩
  | cons e l ih =>
    intro m
    unfold lstF
    by_cases h : at_ < e.1 ∧ e.1 < m
    · rw [if_pos h]
      obtain ⟨a, b, c⟩ := ih e.1
      refine ⟨?_, fun x hx hat => ?_, ?_⟩
      · exact i_nlt (fun q => i_irr _ (i_lt_le (i_tr h.2 q) a))
      · rcases List.mem_cons.mp hx with q | q
        · rw [q]; exact a
        · exact b x q hat
      · rcases c with q | ⟨x, hx, hy⟩
        · exact Or.inr ⟨e, List.mem_cons_self, h.1, q⟩
        · exact Or.inr ⟨x, List.mem_cons_of_mem _ hx, hy⟩
    · rw [if_neg h]
      obtain ⟨a, b, c⟩ := ih m
      refine ⟨a, fun x hx hat => ?_, ?_⟩
      · rcases List.mem_cons.mp hx with q | q
        · subst q
          have : ¬ x.1 < m := fun z => h ⟨hat, z⟩
          exact i_nlt (fun z => i_irr _ (i_lt_le (i_lt_le z a) (i_nlt this)))
        · exact b x q hat
      · rcases c with q | ⟨x, hx, hy⟩
        · exact Or.inl q
        · exact Or.inr ⟨x, List.mem_cons_of_mem _ hx, hy⟩
theorem lst_kth {es ms : List E3} {k : Nat} {e : E3} {at_ : Int32} (hP : ms.Perm es) (hS : Srt es) (hk : es[k]? = some e) (hid : ∃ i, i ≤ 9999 ∧ e.1 = nI i) (hat : at_ < e.1) (hlow : ∀ j x, es[j]? = some x → j < k → x.1 ≤ at_) : lstF at_ ms 10000 = e.1 := by
  obtain ⟨a, b, c⟩ := lstF_le at_ ms 10000
  have h1 := b e (hP.mem_iff.mpr (List.mem_of_getElem? hk)) hat
  obtain ⟨i, hi, hie⟩ := hid
  rcases c with q | ⟨x, hx, hy, hz⟩
  · exfalso
    rw [q, hie] at h1
    exact absurd h1 (nI_ge (b := 10000) (by omega) (by omega))
  · obtain ⟨j, hj⟩ := List.mem_iff_getElem?.mp (hP.mem_iff.mp hx)
    rcases Nat.lt_trichotomy j k with q | q | q
    · exact absurd (i_lt_le hy (hlow j x hj q)) (i_irr _)
    · subst q; rw [hk] at hj; cases hj; exact hz
    · have := hS.at hk hj q
      rw [hz] at h1
      exact absurd (i_lt_le this h1) (i_irr _)
theorem n_flowAt {G : SG} {d T : Nat} {h : AH} {s : CS} {g k : Int32} (hM : RM h s T) : SW G mX9_flowAt (d + 11) 0 0 0 [.ref 75, .int g, .int k, .retAddr 0, .retAddr 0, .retAddr 0, .retAddr 0] [] h (fun r h' => r = some (.int (c_flowAt s g k)) ∧ RM h' s T ∧ SameD h h') := by
  obtain ⟨v, f, tp, H⟩ := hM
  have h5 := H.1.1
  refine sw_aload_n dX9_flowAt_0 rfl ?_
  refine sw_iconst (v := 0) dX9_flowAt_1 (by decide) ?_
  refine sw_puti dX9_flowAt_2 fl_X9_35 (h5) (Nat.le_of_ble_eq_true rfl) (fun g0 z0 e0 o0 => ?_)
  obtain ⟨H, D0⟩ := H.ra e0 z0 o0
  obtain ⟨⟨h5, h6, h77, hS, h83⟩, hR, ⟨t, a, r, htT, hC⟩, ⟨ev, ef⟩, hn, htp⟩ := id H
  have i53 : ∀ {b : Nat}, (53 : Int32) + nI b = nI (53 + b) := ix2 (a := 53)
  unfold c_flowAt
  refine sw_iload_n dX9_flowAt_5 rfl ?_
  refine sw_pcs1 dX9_flowAt_6 cs_X9_125 (n_isGate) ?_
  refine sw_ifeq (tgt := 31) dX9_flowAt_9 (by decide) (fun h1 => ?_) (fun h1 => ?_)
  · rw [if_neg (fun q => bz_eq0.mp h1 q.1)]
    refine sw_iconst (v := (-1)) dX9_flowAt_31 (by decide) ?_
    exact sw_ireturn dX9_flowAt_32 rfl rfl (⟨rfl, H.M, D0⟩)
  · have h1 := bz_eq1.mp h1
    obtain ⟨gi, hgi, rfl⟩ := ga_of h1
    rw [nI_clamp (show gi < 2 ^ 31 by omega)]
    obtain ⟨ms, hML, hP⟩ := hR.2.2.2 gi hgi
    have hP : ms.Perm (s.1.gs gi).2.2.2 := hP
    have hG := hC.2.2.2.2.2.2 gi hgi
    have h16 := hML.2.1
    have hlen := hP.length_eq
    refine sw_iload_n dX9_flowAt_12 rfl ?_
    refine sw_iconst (v := 0) dX9_flowAt_13 (by decide) ?_
    refine sw_aload_n dX9_flowAt_14 rfl ?_
    refine sw_getf dX9_flowAt_15 fl_X9_7 (h5) rfl ?_
    refine sw_bipush (v := 53) dX9_flowAt_18 (by decide) ?_
    refine sw_iload_n dX9_flowAt_20 rfl ?_
    refine sw_iadd dX9_flowAt_21 ?_
    refine sw_iald dX9_flowAt_22 (h6) (wi i53 (by omega) (by omega)) (wv i53 (by omega) hML.1) ?_
    refine sw_iconst (v := 1) dX9_flowAt_23 (by decide) ?_
    refine sw_isub dX9_flowAt_24 ?_
    refine sw_pcs3 dX9_flowAt_25 cs_X9_39 (n_in) ?_
    rw [bz_iff (and_congr_right fun _ => le_pred (by omega))]
    refine sw_ifne (tgt := 33) dX9_flowAt_28 (by decide) (fun h2 => ?_) (fun h2 => ?_)
    · have h2 := bz_eq1.mp h2
      obtain ⟨j, hj, rfl⟩ := ba_of (by omega) h2
      rw [if_pos ⟨h1, nI_pos (by omega), by rw [← hlen]; exact h2.2⟩, nI_clamp (by omega)]
      obtain ⟨e, he⟩ := getE (es := (s.1.gs gi).2.2.2) (i := j) (by omega)
      rw [flE_at he]
      have outer : ∀ (c n : Nat) (at_ : Int32) (v5 v6 : Value), n + c = j + 1 → (n = 0 → at_ = -1) → (∀ m x, n = m + 1 → (s.1.gs gi).2.2.2[m]? = some x → at_ = x.1) → SW G mX9_flowAt (d + 11) 0 0 38 [.ref 75, .int (nI gi), .int (nI j), .int at_, .int (nI n), v5, v6] [] g0 (fun r h' => r = some (.int e.1) ∧ RM h' s T ∧ SameD h h') := by
        intro c
        induction c with
        | zero =>
          intro n at_ v5 v6 hnc hn0 hn1
          have : n = j + 1 := by omega
          subst this
          have := hn1 j e rfl he
          subst this
          refine sw_iload dX9_flowAt_38 rfl ?_
          refine sw_iload_n dX9_flowAt_40 rfl ?_
          refine sw_cmpgt (tgt := 118) dX9_flowAt_41 (by decide) (fun hc => ?_) (fun hc => ?_)
          · refine sw_iload_n dX9_flowAt_118 rfl ?_
            exact sw_ireturn dX9_flowAt_119 rfl rfl (⟨rfl, H.M, D0⟩)
          · exact absurd (nI_lt (by omega) (by omega)) hc
        | succ c ih =>
          intro n at_ v5 v6 hnc hn0 hn1
          obtain ⟨x, hx⟩ := getE (es := (s.1.gs gi).2.2.2) (i := n) (by omega)
          have hxi := (hG.2.2.2.2.2 x (List.mem_of_getElem? hx)).1
          have hat : at_ < x.1 := by
            cases n with
            | zero =>
              rw [hn0 rfl]
              obtain ⟨i, hi, e⟩ := hxi
              rw [e, Int32.lt_iff_toInt_lt, nI_toInt (by omega)]
              have e1 : (-1 : Int32).toInt = -1 := rfl
              omega
            | succ n =>
              obtain ⟨y, hy⟩ := getE (es := (s.1.gs gi).2.2.2) (i := n) (by omega)
              rw [hn1 n y rfl hy]
              exact hG.2.2.2.1.at hy hx (by omega)
          have hlow : ∀ i y, (s.1.gs gi).2.2.2[i]? = some y → i < n → y.1 ≤ at_ := by
            intro i y hy hin
            cases n with
            | zero => omega
            | succ n =>
              obtain ⟨z, hz⟩ := getE (es := (s.1.gs gi).2.2.2) (i := n) (by omega)
              rw [hn1 n z rfl hz]
              by_cases hii : i = n
              · subst hii; rw [hy] at hz; cases hz; exact i_nlt (i_irr _)
              · have := hG.2.2.2.1.at hy hz (by omega)
                exact i_nlt (fun q => i_irr _ (i_tr q this))
          have hkth := lst_kth hP hG.2.2.2.1 hx hxi hat hlow
          have inner : ∀ (l : List E3) (i : Nat) (m : Int32), ms.drop i = l → i ≤ ms.length → lstF at_ l m = x.1 → SW G mX9_flowAt (d + 11) 0 0 52 [.ref 75, .int (nI gi), .int (nI j), .int at_, .int (nI n), .int m, .int (nI i)] [] g0 (fun r h' => r = some (.int e.1) ∧ RM h' s T ∧ SameD h h') := by
            intro l
            induction l with
            | nil =>
              intro i m hd hi hl
              have := dropN hd
              have : i = ms.length := by omega
              subst this
              have hl : m = x.1 := hl
              subst hl
              refine sw_iload dX9_flowAt_52 rfl ?_
              refine sw_aload_n dX9_flowAt_54 rfl ?_
              refine sw_getf dX9_flowAt_55 fl_X9_7 (h5) rfl ?_
              refine sw_bipush (v := 53) dX9_flowAt_58 (by decide) ?_
              refine sw_iload_n dX9_flowAt_60 rfl ?_
              refine sw_iadd dX9_flowAt_61 ?_
              refine sw_iald dX9_flowAt_62 (h6) (wi i53 (by omega) (by omega)) (wv i53 (by omega) hML.1) ?_
              refine sw_cmpge (tgt := 109) dX9_flowAt_63 (by decide) (fun hc => ?_) (fun hc => ?_)
              · refine sw_iload dX9_flowAt_109 rfl ?_
                refine sw_istore_n dX9_flowAt_111 (by decide) rfl ?_
                refine sw_iinc (v := nI (n + 1)) dX9_flowAt_112 rfl (nI_1 n) (by decide) rfl ?_
                refine sw_goto (tgt := 38) dX9_flowAt_115 (by decide) ?_
                exact ih (n + 1) _ _ _ (by omega) (fun q => by omega) (fun m y hm hy => by
                  have : m = n := by omega
                  subst this
                  rw [hx] at hy
                  cases hy
                  rfl)
              · exact absurd (nI_le (Nat.le_refl _) (by omega)) hc
            | cons y l ihl =>
              intro i m hd hi hl
              obtain ⟨hyy, hd2, hil⟩ := dropC hd
              have hfl := (hML.2.2 i y hyy).1
              have fin : ∀ m' : Int32, lstF at_ l m' = x.1 → SW G mX9_flowAt (d + 11) 0 0 101 [.ref 75, .int (nI gi), .int (nI j), .int at_, .int (nI n), .int m, .int (nI i)] [.int m'] g0 (fun r h' => r = some (.int e.1) ∧ RM h' s T ∧ SameD h h') := by
                intro m' hm'
                refine sw_istore dX9_flowAt_101 (by decide) rfl ?_
                refine sw_iinc (v := nI (i + 1)) dX9_flowAt_103 rfl (nI_1 i) (by decide) rfl ?_
                refine sw_goto (tgt := 52) dX9_flowAt_106 (by decide) ?_
                exact ihl (i + 1) m' hd2 (by omega) hm'
              refine sw_iload dX9_flowAt_52 rfl ?_
              refine sw_aload_n dX9_flowAt_54 rfl ?_
              refine sw_getf dX9_flowAt_55 fl_X9_7 (h5) rfl ?_
              refine sw_bipush (v := 53) dX9_flowAt_58 (by decide) ?_
              refine sw_iload_n dX9_flowAt_60 rfl ?_
              refine sw_iadd dX9_flowAt_61 ?_
              refine sw_iald dX9_flowAt_62 (h6) (wi i53 (by omega) (by omega)) (wv i53 (by omega) hML.1) ?_
              refine sw_cmpge (tgt := 109) dX9_flowAt_63 (by decide) (fun hc => ?_) (fun hc => ?_)
              · exact absurd hc (nI_ge (by omega) (by omega))
              · refine sw_aload_n dX9_flowAt_66 rfl ?_
                refine sw_iload_n dX9_flowAt_67 rfl ?_
                refine sw_iload dX9_flowAt_68 rfl ?_
                refine sw_pcv2 dX9_flowAt_70 cv_X9_74 (rc_of h5 rfl) (n_flowOf (g := gi) (b := i) h5 h6 hgi (by omega)) ?_
                rw [hfl]
                refine sw_iload_n dX9_flowAt_73 rfl ?_
                refine sw_cmple (tgt := 99) dX9_flowAt_74 (by decide) (fun q1 => ?_) (fun q1 => ?_)
                · refine sw_iload dX9_flowAt_99 rfl ?_
                  exact fin m (by rw [← hl, lstF, if_neg (fun z => i_irr _ (i_lt_le z.1 q1))])
                · refine sw_aload_n dX9_flowAt_77 rfl ?_
                  refine sw_iload_n dX9_flowAt_78 rfl ?_
                  refine sw_iload dX9_flowAt_79 rfl ?_
                  refine sw_pcv2 dX9_flowAt_81 cv_X9_74 (rc_of h5 rfl) (n_flowOf (g := gi) (b := i) h5 h6 hgi (by omega)) ?_
                  rw [hfl]
                  refine sw_iload dX9_flowAt_84 rfl ?_
                  refine sw_cmpge (tgt := 99) dX9_flowAt_86 (by decide) (fun q2 => ?_) (fun q2 => ?_)
                  · refine sw_iload dX9_flowAt_99 rfl ?_
                    exact fin m (by rw [← hl, lstF, if_neg (fun z => i_irr _ (i_lt_le z.2 q2))])
                  · refine sw_aload_n dX9_flowAt_89 rfl ?_
                    refine sw_iload_n dX9_flowAt_90 rfl ?_
                    refine sw_iload dX9_flowAt_91 rfl ?_
                    refine sw_pcv2 dX9_flowAt_93 cv_X9_74 (rc_of h5 rfl) (n_flowOf (g := gi) (b := i) h5 h6 hgi (by omega)) ?_
                    rw [hfl]
                    refine sw_goto (tgt := 101) dX9_flowAt_96 (by decide) ?_
                    exact fin y.1 (by rw [← hl, lstF, if_pos ⟨i_lt_of q1, i_lt_of q2⟩])
          refine sw_iload dX9_flowAt_38 rfl ?_
          refine sw_iload_n dX9_flowAt_40 rfl ?_
          refine sw_cmpgt (tgt := 118) dX9_flowAt_41 (by decide) (fun hc => ?_) (fun hc => ?_)
          · exact absurd hc (nI_nlt (by omega) (by omega))
          · refine sw_sipush (v := 10000) dX9_flowAt_44 (by decide) ?_
            refine sw_istore dX9_flowAt_47 (by decide) rfl ?_
            refine sw_iconst (v := 0) dX9_flowAt_49 (by decide) ?_
            refine sw_istore dX9_flowAt_50 (by decide) rfl ?_
            exact inner ms 0 10000 rfl (by omega) hkth
      refine sw_iconst (v := (-1)) dX9_flowAt_33 (by decide) ?_
      refine sw_istore_n dX9_flowAt_34 (by decide) rfl ?_
      refine sw_iconst (v := 0) dX9_flowAt_35 (by decide) ?_
      refine sw_istore dX9_flowAt_36 (by decide) rfl ?_
      exact outer (j + 1) 0 (-1) _ _ (by omega) (fun _ => rfl) (fun m x hm => by omega)
    · have h2 := bz_eq0.mp h2
      rw [if_neg (fun q => h2 ⟨i_nlt q.2.1, by rw [hlen]; exact q.2.2⟩)]
      refine sw_iconst (v := (-1)) dX9_flowAt_31 (by decide) ?_
      exact sw_ireturn dX9_flowAt_32 rfl rfl (⟨rfl, H.M, D0⟩)
theorem n_astray {G : SG} {d T : Nat} {h : AH} {s : CS} {g o : Int32} (hM : RM h s T) : SW G mX9_astray (d + 11) 0 0 0 [.ref 75, .int g, .int o, .retAddr 0, .retAddr 0] [] h (fun r h' => r = some (.int (c_astray s g o)) ∧ RM h' s T ∧ SameD h h') := by
  obtain ⟨v, f, tp, H⟩ := hM
  have h5 := H.1.1
  refine sw_aload_n dX9_astray_0 rfl ?_
  refine sw_iconst (v := 0) dX9_astray_1 (by decide) ?_
  refine sw_puti dX9_astray_2 fl_X9_35 (h5) (Nat.le_of_ble_eq_true rfl) (fun g0 z0 e0 o0 => ?_)
  obtain ⟨H, D0⟩ := H.ra e0 z0 o0
  obtain ⟨⟨h5, h6, h77, hS, h83⟩, hR, ⟨t, a, r, htT, hC⟩, ⟨ev, ef⟩, hn, htp⟩ := id H
  have i53 : ∀ {b : Nat}, (53 : Int32) + nI b = nI (53 + b) := ix2 (a := 53)
  unfold c_astray
  refine sw_iload_n dX9_astray_5 rfl ?_
  refine sw_pcs1 dX9_astray_6 cs_X9_125 (n_isGate) ?_
  refine sw_ifeq (tgt := 19) dX9_astray_9 (by decide) (fun h1 => ?_) (fun h1 => ?_)
  · rw [if_neg (fun q => bz_eq0.mp h1 q.1)]
    refine sw_iconst (v := (-1)) dX9_astray_19 (by decide) ?_
    exact sw_ireturn dX9_astray_20 rfl rfl (⟨rfl, H.M, D0⟩)
  · have h1 := bz_eq1.mp h1
    refine sw_iload_n dX9_astray_12 rfl ?_
    refine sw_pcs1 dX9_astray_13 cs_X9_125 (n_isGate) ?_
    refine sw_ifne (tgt := 21) dX9_astray_16 (by decide) (fun h2 => ?_) (fun h2 => ?_)
    · have h2 := bz_eq1.mp h2
      rw [if_pos ⟨h1, h2⟩]
      obtain ⟨gi, hgi, rfl⟩ := ga_of h1
      obtain ⟨oi, hoi, rfl⟩ := ga_of h2
      rw [nI_clamp (by omega), nI_clamp (by omega)]
      obtain ⟨ms, hML, hP⟩ := hR.2.2.2 gi hgi
      have hP : ms.Perm (s.1.gs gi).2.2.2 := hP
      have h16 := hML.2.1
      have hcnt : astF s.1 oi (s.1.gs gi).2.2.2 = astF s.1 oi ms := (hP.countP_eq _).symm
      rw [hcnt]
      have loop : ∀ (l : List E3) (i n : Nat) (g1 : AH), ms.drop i = l → i ≤ ms.length → n + astF s.1 oi l = astF s.1 oi ms → SameZ g0 g1 → SC g1 → SW G mX9_astray (d + 11) 0 0 26 [.ref 75, .int (nI gi), .int (nI oi), .int (nI n), .int (nI i)] [] g1 (fun r h' => r = some (.int (nI (astF s.1 oi ms))) ∧ RM h' s T ∧ SameD h h') := by
        intro l
        induction l with
        | nil =>
          intro i n g1 hd hi hsum hZ hS1
          have := dropN hd
          have : i = ms.length := by omega
          subst this
          have hsum : n = astF s.1 oi ms := hsum
          subst hsum
          obtain ⟨H1, D1⟩ := H.z hZ hS1
          have h5 := H1.1.1
          have h6 := H1.1.2.1
          refine sw_iload dX9_astray_26 rfl ?_
          refine sw_aload_n dX9_astray_28 rfl ?_
          refine sw_getf dX9_astray_29 fl_X9_7 (h5) rfl ?_
          refine sw_bipush (v := 53) dX9_astray_32 (by decide) ?_
          refine sw_iload_n dX9_astray_34 rfl ?_
          refine sw_iadd dX9_astray_35 ?_
          refine sw_iald dX9_astray_36 (h6) (wi i53 (by omega) (by omega)) (wv i53 (by omega) hML.1) ?_
          refine sw_cmpge (tgt := 76) dX9_astray_37 (by decide) (fun hc => ?_) (fun hc => ?_)
          · refine sw_iload_n dX9_astray_76 rfl ?_
            exact sw_ireturn dX9_astray_77 rfl rfl (⟨rfl, H1.M, D0.tr D1⟩)
          · exact absurd (nI_le (Nat.le_refl _) (by omega)) hc
        | cons e l ih =>
          intro i n g1 hd hi hsum hZ hS1
          obtain ⟨hee, hd2, hil⟩ := dropC hd
          obtain ⟨m1, m2, m3⟩ := hML.2.2 i e hee
          obtain ⟨H1, D1⟩ := H.z hZ hS1
          have h5 := H1.1.1
          have h6 := H1.1.2.1
          refine sw_iload dX9_astray_26 rfl ?_
          refine sw_aload_n dX9_astray_28 rfl ?_
          refine sw_getf dX9_astray_29 fl_X9_7 (h5) rfl ?_
          refine sw_bipush (v := 53) dX9_astray_32 (by decide) ?_
          refine sw_iload_n dX9_astray_34 rfl ?_
          refine sw_iadd dX9_astray_35 ?_
          refine sw_iald dX9_astray_36 (h6) (wi i53 (by omega) (by omega)) (wv i53 (by omega) hML.1) ?_
          refine sw_cmpge (tgt := 76) dX9_astray_37 (by decide) (fun hc => ?_) (fun hc => ?_)
          · exact absurd hc (nI_ge (by omega) (by omega))
          · refine sw_iload_n dX9_astray_40 rfl ?_
            refine sw_aload_n dX9_astray_41 rfl ?_
            refine sw_iload_n dX9_astray_42 rfl ?_
            refine sw_aload_n dX9_astray_43 rfl ?_
            refine sw_iload_n dX9_astray_44 rfl ?_
            refine sw_iload dX9_astray_45 rfl ?_
            refine sw_pcv2 dX9_astray_47 cv_X9_74 (rc_of h5 rfl) (n_flowOf (g := gi) (b := i) h5 h6 hgi (by omega)) ?_
            rw [m1]
            refine sw_cv2 dX9_astray_50 cv_X9_100 (rc_of h5 rfl) (n_goesTo (g := oi) h5 h6 hS1 hR hC hoi) (fun rr g2 hr => ?_)
            obtain ⟨rfl, hZ2, hS2⟩ := hr
            obtain ⟨H2, D2⟩ := H1.z hZ2 hS2
            have h5 := H2.1.1
            have h6 := H2.1.2.1
            have fin : ∀ k : Nat, (n + k) + astF s.1 oi l = astF s.1 oi ms → SW G mX9_astray (d + 11) 0 0 68 [.ref 75, .int (nI gi), .int (nI oi), .int (nI n), .int (nI i)] [.int (nI k), .int (nI n)] g2 (fun r h' => r = some (.int (nI (astF s.1 oi ms))) ∧ RM h' s T ∧ SameD h h') := by
              intro k hk
              refine sw_iadd dX9_astray_68 ?_
              rw [nI_add]
              refine sw_istore_n dX9_astray_69 (by decide) rfl ?_
              refine sw_iinc (v := nI (i + 1)) dX9_astray_70 rfl (nI_1 i) (by decide) rfl ?_
              refine sw_goto (tgt := 26) dX9_astray_73 (by decide) ?_
              exact ih (i + 1) (n + k) g2 hd2 (by omega) hk (hZ.tr hZ2) hS2
            refine sw_aload_n dX9_astray_53 rfl ?_
            refine sw_iload_n dX9_astray_54 rfl ?_
            refine sw_iload dX9_astray_55 rfl ?_
            refine sw_pcv2 dX9_astray_57 cv_X9_77 (rc_of h5 rfl) (n_toOf (g := gi) (b := i) h5 h6 hgi (by omega)) ?_
            rw [m2]
            refine sw_cmpne (tgt := 67) dX9_astray_60 (by decide) (fun hq => ?_) (fun hq => ?_)
            · refine sw_iconst (v := 1) dX9_astray_67 (by decide) ?_
              refine fin 1 ?_
              unfold astF at hsum ⊢
              rw [List.countP_cons_of_pos (by simp [hq])] at hsum
              omega
            · refine sw_iconst (v := 0) dX9_astray_63 (by decide) ?_
              refine sw_goto (tgt := 68) dX9_astray_64 (by decide) ?_
              refine fin 0 ?_
              unfold astF at hsum ⊢
              rw [List.countP_cons_of_neg (by simp [hq])] at hsum
              exact hsum
      refine sw_iconst (v := 0) dX9_astray_21 (by decide) ?_
      refine sw_istore_n dX9_astray_22 (by decide) rfl ?_
      refine sw_iconst (v := 0) dX9_astray_23 (by decide) ?_
      refine sw_istore dX9_astray_24 (by decide) rfl ?_
      exact loop ms 0 0 g0 rfl (by omega) (by omega) SameZ.rf hS
    · rw [if_neg (fun q => bz_eq0.mp h2 q.2)]
      refine sw_iconst (v := (-1)) dX9_astray_19 (by decide) ?_
      exact sw_ireturn dX9_astray_20 rfl rfl (⟨rfl, H.M, D0⟩)
