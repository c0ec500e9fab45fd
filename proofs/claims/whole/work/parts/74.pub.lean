/-! when a backend is idle -/
/-- a latest tick: one to b, and none to b is later -/
def isLat (b : Int32) (l : List E3) (x : Int32) : Prop := (∃ e ∈ l, e.2.1 = b ∧ e.2.2 = x) ∧ ∀ e ∈ l, e.2.1 = b → e.2.2 ≤ x
theorem latL_p (b : Int32) : ∀ (l : List E3) (a : Int32), (latL b l a = a ∧ ∀ e ∈ l, e.2.1 = b → ¬ a < e.2.2) ∨ (a < latL b l a ∧ isLat b l (latL b l a)) := by
  intro l
  induction l with
  | nil => intro a; exact Or.inl ⟨rfl, fun e he => (by cases he)⟩
  | cons e l ih =>
    intro a
    unfold latL
    by_cases hb : e.2.1 = b
    · rw [if_pos hb]
      by_cases hlt : a < e.2.2
      · rw [if_pos hlt]
        rcases ih e.2.2 with ⟨q, n⟩ | ⟨q, ⟨x, hx, hxb, hxe⟩, n⟩
        · rw [q]
          refine Or.inr ⟨hlt, ⟨e, List.mem_cons_self, hb, rfl⟩, fun y hy hyb => ?_⟩
          rcases List.mem_cons.mp hy with z | z
          · rw [z]; exact i_nlt (i_irr _)
          · exact i_nlt (n y z hyb)
        · refine Or.inr ⟨i_tr hlt q, ⟨x, List.mem_cons_of_mem _ hx, hxb, hxe⟩, fun y hy hyb => ?_⟩
          rcases List.mem_cons.mp hy with z | z
          · rw [z]; exact i_nlt (fun w => i_irr _ (i_tr w q))
          · exact n y z hyb
      · rw [if_neg hlt]
        rcases ih a with ⟨q, n⟩ | ⟨q, ⟨x, hx, hxb, hxe⟩, n⟩
        · refine Or.inl ⟨q, fun y hy hyb => ?_⟩
          rcases List.mem_cons.mp hy with z | z
          · rw [z]; exact hlt
          · exact n y z hyb
        · refine Or.inr ⟨q, ⟨x, List.mem_cons_of_mem _ hx, hxb, hxe⟩, fun y hy hyb => ?_⟩
          rcases List.mem_cons.mp hy with z | z
          · rw [z]; exact i_nlt (fun w => i_irr _ (i_tr (i_lt_le w (i_nlt hlt)) q))
          · exact n y z hyb
    · rw [if_neg hb]
      rcases ih a with ⟨q, n⟩ | ⟨q, ⟨x, hx, hxb, hxe⟩, n⟩
      · refine Or.inl ⟨q, fun y hy hyb => ?_⟩
        rcases List.mem_cons.mp hy with z | z
        · rw [z] at hyb; exact absurd hyb hb
        · exact n y z hyb
      · refine Or.inr ⟨q, ⟨x, List.mem_cons_of_mem _ hx, hxb, hxe⟩, fun y hy hyb => ?_⟩
        rcases List.mem_cons.mp hy with z | z
        · rw [z] at hyb; exact absurd hyb hb
        · exact n y z hyb
/-- what the reference does -/
def idlM (b a : Int32) : List E3 → Int32 → Int32
  | [], m => m
  | e :: l, m => idlM b a l (if e.2.1 = b ∧ ¬ e.2.2 + a + 1 ≤ m then e.2.2 + a + 1 else m)
theorem idlM_p (b a : Int32) : ∀ (l : List E3) (m : Int32), (idlM b a l m = m ∧ ∀ e ∈ l, e.2.1 = b → e.2.2 + a + 1 ≤ m) ∨ (∃ e ∈ l, e.2.1 = b ∧ idlM b a l m = e.2.2 + a + 1 ∧ m < e.2.2 + a + 1 ∧ ∀ x ∈ l, x.2.1 = b → x.2.2 + a + 1 ≤ e.2.2 + a + 1) := by
  intro l
  induction l with
  | nil => intro m; exact Or.inl ⟨rfl, fun e he => (by cases he)⟩
  | cons e l ih =>
    intro m
    unfold idlM
    by_cases h : e.2.1 = b ∧ ¬ e.2.2 + a + 1 ≤ m
    · rw [if_pos h]
      rcases ih (e.2.2 + a + 1) with ⟨q, n⟩ | ⟨x, hx, hxb, q, w, n⟩
      · rw [q]
        refine Or.inr ⟨e, List.mem_cons_self, h.1, rfl, i_lt_of h.2, fun y hy hyb => ?_⟩
        rcases List.mem_cons.mp hy with z | z
        · rw [z]; exact i_nlt (i_irr _)
        · exact n y z hyb
      · refine Or.inr ⟨x, List.mem_cons_of_mem _ hx, hxb, q, i_tr (i_lt_of h.2) w, fun y hy hyb => ?_⟩
        rcases List.mem_cons.mp hy with z | z
        · rw [z]; exact i_nlt (fun u => i_irr _ (i_tr w u))
        · exact n y z hyb
    · rw [if_neg h]
      have hle : e.2.1 = b → e.2.2 + a + 1 ≤ m := fun q => Classical.byContradiction fun z => h ⟨q, z⟩
      rcases ih m with ⟨q, n⟩ | ⟨x, hx, hxb, q, w, n⟩
      · refine Or.inl ⟨q, fun y hy hyb => ?_⟩
        rcases List.mem_cons.mp hy with z | z
        · rw [z] at hyb ⊢; exact hle hyb
        · exact n y z hyb
      · refine Or.inr ⟨x, List.mem_cons_of_mem _ hx, hxb, q, w, fun y hy hyb => ?_⟩
        rcases List.mem_cons.mp hy with z | z
        · rw [z] at hyb ⊢; exact i_nlt (fun u => i_irr _ (i_lt_le (i_tr w u) (hle hyb)))
        · exact n y z hyb
theorem idl_eq {b : Int32} {es ms : List E3} {n t a : Nat} (hP : ms.Perm es) (ht : t < 2 ^ 30) (ha : a ≤ 99) (he : ∀ e ∈ es, eOk n t a e) : idlM b (nI a) ms (nI t) = if latL b es (-1) = -1 then nI t else latL b es (-1) + nI a + 1 := by
  have hv : ∀ e ∈ es, ∃ k, t < k ∧ k < 2 ^ 30 + 200 ∧ e.2.2 + nI a + 1 = nI k ∧ ∃ t', e.2.2 = nI t' ∧ k = t' + a + 1 := by
    intro e hee
    obtain ⟨t', h1, h2, h3⟩ := (he e hee).2.2
    exact ⟨t' + a + 1, by omega, by omega, by rw [h3, nI_add, nI_1], t', h3, rfl⟩
  rcases latL_p b es (-1) with ⟨q, nn⟩ | ⟨q, ⟨x, hx, hxb, hxe⟩, nn⟩
  · rw [if_pos q]
    rcases idlM_p b (nI a) ms (nI t) with ⟨z, -⟩ | ⟨y, hy, hyb, -⟩
    · exact z
    · exfalso
      have hy := hP.mem_iff.mp hy
      refine nn y hy hyb ?_
      obtain ⟨k, -, hk2, -, t', e, hkt⟩ := hv y hy
      rw [e, Int32.lt_iff_toInt_lt, nI_toInt (by omega)]
      have e1 : (-1 : Int32).toInt = -1 := rfl
      omega
  · rw [if_neg (fun z => by rw [z] at q; exact i_irr _ q)]
    obtain ⟨k, k1, k2, k3, t', e, hkt⟩ := hv x hx
    rw [← hxe, k3]
    rcases idlM_p b (nI a) ms (nI t) with ⟨z, w⟩ | ⟨y, hy, hyb, z, w, u⟩
    · exfalso
      have := w x (hP.mem_iff.mpr hx) hxb
      rw [k3] at this
      exact nI_ge k1 (by omega) this
    · rw [z]
      have hy' := hP.mem_iff.mp hy
      obtain ⟨k', k1', k2', k3', t2, e', hkt'⟩ := hv y hy'
      have h1 := nn y hy' hyb
      rw [← hxe, e', e, nI_leI (by omega) (by omega)] at h1
      have h2 := u x (hP.mem_iff.mpr hx) hxb
      rw [k3, k3', nI_leI (by omega) (by omega)] at h2
      rw [k3', show k' = k by omega]
theorem n_idle {G : SG} {d T : Nat} {h : AH} {s : CS} {g b : Int32} (hM : RM h s T) (hT : T < 2 ^ 29) : SW G mX9_idle (d + 11) 0 0 0 [.ref 75, .int g, .int b, .retAddr 0, .retAddr 0] [] h (fun r h' => r = some (.int (c_idle s g b)) ∧ RM h' s T ∧ SameD h h') := by
  obtain ⟨v, f, tp, H⟩ := hM
  have h5 := H.1.1
  refine sw_aload_n dX9_idle_0 rfl ?_
  refine sw_iconst (v := 0) dX9_idle_1 (by decide) ?_
  refine sw_puti dX9_idle_2 fl_X9_35 (h5) (Nat.le_of_ble_eq_true rfl) (fun g0 z0 e0 o0 => ?_)
  obtain ⟨H, D0⟩ := H.ra e0 z0 o0
  obtain ⟨⟨h5, h6, h77, hS, h83⟩, hR, ⟨t, a, r, htT, hC⟩, ⟨ev, ef⟩, hn, htp⟩ := id H
  have hn8 := hC.2.1
  have i53 : ∀ {b : Nat}, (53 : Int32) + nI b = nI (53 + b) := ix2 (a := 53)
  unfold c_idle
  refine sw_iload_n dX9_idle_5 rfl ?_
  refine sw_pcs1 dX9_idle_6 cs_X9_125 (n_isGate) ?_
  refine sw_ifeq (tgt := 20) dX9_idle_9 (by decide) (fun h1 => ?_) (fun h1 => ?_)
  · rw [if_neg (fun q => bz_eq0.mp h1 q.1)]
    refine sw_iconst (v := (-1)) dX9_idle_20 (by decide) ?_
    exact sw_ireturn dX9_idle_21 rfl rfl (⟨rfl, H.M, D0⟩)
  · have h1 := bz_eq1.mp h1
    refine sw_aload_n dX9_idle_12 rfl ?_
    refine sw_iload_n dX9_idle_13 rfl ?_
    refine sw_pcv1 dX9_idle_14 cv_X9_122 (rc_of h5 rfl) (n_isBack h5 h6 hR.1.2.1 (by omega)) ?_
    refine sw_ifne (tgt := 22) dX9_idle_17 (by decide) (fun h2 => ?_) (fun h2 => ?_)
    · have h2 := bz_eq1.mp h2
      rw [if_pos ⟨h1, h2⟩]
      obtain ⟨gi, hgi, rfl⟩ := ga_of h1
      rw [nI_clamp (by omega)]
      obtain ⟨ms, hML, hP⟩ := hR.2.2.2 gi hgi
      have hP : ms.Perm (s.1.gs gi).2.2.2 := hP
      have h16 := hML.2.1
      have hck := hC.2.2.2.2.2.1.1
      have hag := hC.2.2.2.2.2.1.2.1
      rw [hck, hag, ← idl_eq hP (by omega) hC.2.2.2.1 (hC.2.2.2.2.2.2 gi hgi).2.2.2.2.2]
      have loop : ∀ (l : List E3) (i : Nat) (m : Int32), ms.drop i = l → i ≤ ms.length → idlM b (nI a) l m = idlM b (nI a) ms (nI t) → SW G mX9_idle (d + 11) 0 0 32 [.ref 75, .int (nI gi), .int b, .int m, .int (nI i)] [] g0 (fun r h' => r = some (.int (idlM b (nI a) ms (nI t))) ∧ RM h' s T ∧ SameD h h') := by
        intro l
        induction l with
        | nil =>
          intro i m hd hi he
          have := dropN hd
          have : i = ms.length := by omega
          subst this
          have he : m = idlM b (nI a) ms (nI t) := he
          subst he
          refine sw_iload dX9_idle_32 rfl ?_
          refine sw_aload_n dX9_idle_34 rfl ?_
          refine sw_getf dX9_idle_35 fl_X9_7 (h5) rfl ?_
          refine sw_bipush (v := 53) dX9_idle_38 (by decide) ?_
          refine sw_iload_n dX9_idle_40 rfl ?_
          refine sw_iadd dX9_idle_41 ?_
          refine sw_iald dX9_idle_42 (h6) (wi i53 (by omega) (by omega)) (wv i53 (by omega) hML.1) ?_
          refine sw_cmpge (tgt := 100) dX9_idle_43 (by decide) (fun hc => ?_) (fun hc => ?_)
          · refine sw_iload_n dX9_idle_100 rfl ?_
            exact sw_ireturn dX9_idle_101 rfl rfl (⟨rfl, H.M, D0⟩)
          · exact absurd (nI_le (Nat.le_refl _) (by omega)) hc
        | cons e l ih =>
          intro i m hd hi he
          obtain ⟨hee, hd2, hil⟩ := dropC hd
          obtain ⟨m1, m2, m3⟩ := hML.2.2 i e hee
          have fin : ∀ m' : Int32, idlM b (nI a) l m' = idlM b (nI a) ms (nI t) → SW G mX9_idle (d + 11) 0 0 94 [.ref 75, .int (nI gi), .int b, .int m', .int (nI i)] [] g0 (fun r h' => r = some (.int (idlM b (nI a) ms (nI t))) ∧ RM h' s T ∧ SameD h h') := by
            intro m' hm'
            refine sw_iinc (v := nI (i + 1)) dX9_idle_94 rfl (nI_1 i) (by decide) rfl ?_
            refine sw_goto (tgt := 32) dX9_idle_97 (by decide) ?_
            exact ih (i + 1) m' hd2 (by omega) hm'
          have e4 : f 4 = nI a := hR.1.2.2.2.2.trans hag
          refine sw_iload dX9_idle_32 rfl ?_
          refine sw_aload_n dX9_idle_34 rfl ?_
          refine sw_getf dX9_idle_35 fl_X9_7 (h5) rfl ?_
          refine sw_bipush (v := 53) dX9_idle_38 (by decide) ?_
          refine sw_iload_n dX9_idle_40 rfl ?_
          refine sw_iadd dX9_idle_41 ?_
          refine sw_iald dX9_idle_42 (h6) (wi i53 (by omega) (by omega)) (wv i53 (by omega) hML.1) ?_
          refine sw_cmpge (tgt := 100) dX9_idle_43 (by decide) (fun hc => ?_) (fun hc => ?_)
          · exact absurd hc (nI_ge (by omega) (by omega))
          · refine sw_aload_n dX9_idle_46 rfl ?_
            refine sw_iload_n dX9_idle_47 rfl ?_
            refine sw_iload dX9_idle_48 rfl ?_
            refine sw_pcv2 dX9_idle_50 cv_X9_77 (rc_of h5 rfl) (n_toOf (g := gi) (b := i) h5 h6 hgi (by omega)) ?_
            rw [m2]
            refine sw_iload_n dX9_idle_53 rfl ?_
            refine sw_cmpne (tgt := 94) dX9_idle_54 (by decide) (fun hb => ?_) (fun hb => ?_)
            · exact fin m (by rw [← he, idlM, if_neg (fun q => hb q.1)])
            · refine sw_aload_n dX9_idle_57 rfl ?_
              refine sw_iload_n dX9_idle_58 rfl ?_
              refine sw_iload dX9_idle_59 rfl ?_
              refine sw_pcv2 dX9_idle_61 cv_X9_80 (rc_of h5 rfl) (n_whenOf (g := gi) (b := i) h5 h6 hgi (by omega)) ?_
              rw [m3]
              refine sw_aload_n dX9_idle_64 rfl ?_
              refine sw_getf dX9_idle_65 fl_X9_7 (h5) rfl ?_
              refine sw_iconst (v := 4) dX9_idle_68 (by decide) ?_
              refine sw_iald dX9_idle_69 (h6) (vp_in_nI (n := 4) (by omega) (by omega)) (e4) ?_
              refine sw_iadd dX9_idle_70 ?_
              refine sw_iconst (v := 1) dX9_idle_71 (by decide) ?_
              refine sw_iadd dX9_idle_72 ?_
              refine sw_iload_n dX9_idle_73 rfl ?_
              refine sw_cmple (tgt := 94) dX9_idle_74 (by decide) (fun hl => ?_) (fun hl => ?_)
              · exact fin m (by rw [← he, idlM, if_neg (fun q => q.2 hl)])
              · refine sw_aload_n dX9_idle_77 rfl ?_
                refine sw_iload_n dX9_idle_78 rfl ?_
                refine sw_iload dX9_idle_79 rfl ?_
                refine sw_pcv2 dX9_idle_81 cv_X9_80 (rc_of h5 rfl) (n_whenOf (g := gi) (b := i) h5 h6 hgi (by omega)) ?_
                rw [m3]
                refine sw_aload_n dX9_idle_84 rfl ?_
                refine sw_getf dX9_idle_85 fl_X9_7 (h5) rfl ?_
                refine sw_iconst (v := 4) dX9_idle_88 (by decide) ?_
                refine sw_iald dX9_idle_89 (h6) (vp_in_nI (n := 4) (by omega) (by omega)) (e4) ?_
                refine sw_iadd dX9_idle_90 ?_
                refine sw_iconst (v := 1) dX9_idle_91 (by decide) ?_
                refine sw_iadd dX9_idle_92 ?_
                refine sw_istore_n dX9_idle_93 (by decide) rfl ?_
                exact fin _ (by rw [← he, idlM, if_pos ⟨hb, hl⟩])
      refine sw_aload_n dX9_idle_22 rfl ?_
      refine sw_getf dX9_idle_23 fl_X9_7 (h5) rfl ?_
      refine sw_iconst (v := 2) dX9_idle_26 (by decide) ?_
      refine sw_iald dX9_idle_27 (h6) (vp_in_nI (n := 2) (by omega) (by omega)) (hR.1.2.2.1.trans hck) ?_
      refine sw_istore_n dX9_idle_28 (by decide) rfl ?_
      refine sw_iconst (v := 0) dX9_idle_29 (by decide) ?_
      refine sw_istore dX9_idle_30 (by decide) rfl ?_
      exact loop ms 0 (nI t) rfl (by omega) rfl
    · rw [if_neg (fun q => bz_eq0.mp h2 q.2)]
      refine sw_iconst (v := (-1)) dX9_idle_20 (by decide) ?_
      exact sw_ireturn dX9_idle_21 rfl rfl (⟨rfl, H.M, D0⟩)
/-! of -/
def c_of (s : CS) (b x : Int32) : Option Int32 := if 0 ≤ b ∧ b < nI s.1.n then (if 10 ≤ x ∧ (0 ≤ x - 10 ∧ x - 10 ≤ 3) then some ((s.1.gs (x - 10).toNatClampNeg).1 b.toNatClampNeg) else if x = 0 then some (s.1.ks b.toNatClampNeg) else if x = 1 then some (s.1.wt b.toNatClampNeg) else if x = 2 then some (offI (s.1.ks b.toNatClampNeg) (nI s.1.p)) else if x = 3 then some (skpI (s.1.ks b.toNatClampNeg) (nI s.1.p)) else none) else none
theorem v13 {x : Int32} : (10 ≤ x ∧ x ≤ 13) ↔ (10 ≤ x ∧ (0 ≤ x - 10 ∧ x - 10 ≤ 3)) := by
  have := v10 (x := x) (p := 4) (by omega)
  rw [show (13 : Int32) = 9 + nI 4 from rfl, this]
  rw [show (nI 4 : Int32) = nI 3 + 1 from rfl]
  constructor
  · rintro ⟨a, b, c⟩
    refine ⟨a, b, ?_⟩
    rw [Int32.lt_iff_toInt_lt] at c
    rw [Int32.le_iff_toInt_le]
    have e4 : (nI 3 + 1 : Int32).toInt = 4 := rfl
    have e3 : (3 : Int32).toInt = 3 := rfl
    omega
  · rintro ⟨a, b, c⟩
    refine ⟨a, b, ?_⟩
    rw [Int32.le_iff_toInt_le] at c
    rw [Int32.lt_iff_toInt_lt]
    have e4 : (nI 3 + 1 : Int32).toInt = 4 := rfl
    have e3 : (3 : Int32).toInt = 3 := rfl
    omega
theorem n_of {G : SG} {d T : Nat} {h : AH} {s : CS} {b x : Int32} (hM : RM h s T) : SW G mX9_of (d + 11) 0 0 0 [.ref 75, .int b, .int x] [] h (fun r h' => r = some (.int ((c_of s b x).getD 0)) ∧ (∃ v f tp, RB h' v f tp s T ∧ v.1 = bz ((c_of s b x).isNone = true)) ∧ SameD h h') := by
  obtain ⟨v, f, tp, H⟩ := hM
  obtain ⟨⟨h5, h6, h77, hS, h83⟩, hR, ⟨t, a, r, htT, hC⟩, ⟨ev, ef⟩, hn, htp⟩ := id H
  have hn8 := hC.2.1
  have hp := szN_rg _ hC.1
  have no : c_of s b x = none → SW G mX9_of (d + 11) 0 0 33 [.ref 75, .int b, .int x] [.ref 75] h (fun r h' => r = some (.int ((c_of s b x).getD 0)) ∧ (∃ v f tp, RB h' v f tp s T ∧ v.1 = bz ((c_of s b x).isNone = true)) ∧ SameD h h') := by
    intro hnone
    rw [hnone]
    refine sw_iconst (v := 1) dX9_of_33 (by decide) ?_
    refine sw_puti dX9_of_34 fl_X9_35 (h5) (Nat.le_of_ble_eq_true rfl) (fun g0 z0 e0 o0 => ?_)
    obtain ⟨H0, D0⟩ := H.ra e0 z0 o0
    have h5 := H0.1.1
    refine sw_aload_n dX9_of_37 rfl ?_
    refine sw_getf dX9_of_38 fl_X9_35 (h5) rfl ?_
    refine sw_ifle (tgt := 46) dX9_of_41 (by decide) (fun hq => ?_) (fun hq => ?_)
    · exact absurd hq (show ¬ (1 : Int32) ≤ 0 by decide)
    · refine sw_iconst (v := 0) dX9_of_44 (by decide) ?_
      exact sw_ireturn dX9_of_45 rfl rfl (⟨rfl, ⟨_, _, _, H0, rfl⟩, D0⟩)
  have yes : ∀ k : Int32, c_of s b x = some k → ((0 ≤ x ∧ x ≤ 3) ∨ (10 ≤ x ∧ x ≤ 13)) → (0 ≤ b ∧ b < nI s.1.n) → SW G mX9_of (d + 11) 0 0 29 [.ref 75, .int b, .int x] [.ref 75] h (fun r h' => r = some (.int ((c_of s b x).getD 0)) ∧ (∃ v f tp, RB h' v f tp s T ∧ v.1 = bz ((c_of s b x).isNone = true)) ∧ SameD h h') := by
    intro k hsome hx hb
    have hsome0 := hsome
    rw [hsome]
    refine sw_iconst (v := 0) dX9_of_29 (by decide) ?_
    refine sw_goto (tgt := 34) dX9_of_30 (by decide) ?_
    refine sw_puti dX9_of_34 fl_X9_35 (h5) (Nat.le_of_ble_eq_true rfl) (fun g0 z0 e0 o0 => ?_)
    obtain ⟨H0, D0⟩ := H.ra e0 z0 o0
    have h5 := H0.1.1
    have h6 := H0.1.2.1
    obtain ⟨j, hj, rfl⟩ := ba_of (by omega) hb
    refine sw_aload_n dX9_of_37 rfl ?_
    refine sw_getf dX9_of_38 fl_X9_35 (h5) rfl ?_
    refine sw_ifle (tgt := 46) dX9_of_41 (by decide) (fun hq => ?_) (fun hq => ?_)
    · refine sw_iload_n dX9_of_46 rfl ?_
      unfold c_of at hsome
      rw [if_pos hb, nI_clamp (show j < 2 ^ 31 by omega)] at hsome
      rcases hx with hx | hx
      · rw [if_neg (fun q => by have a := Int32.le_iff_toInt_le.mp q.1; have b := Int32.le_iff_toInt_le.mp hx.2; have e1 : (10 : Int32).toInt = 10 := rfl; have e2 : (3 : Int32).toInt = 3 := rfl; omega)] at hsome
        obtain ⟨i, hi, rfl⟩ := nI_of2 (M := 3) (n := 3) rfl (nI_not0 hx.1) hx.2
        rcases (show i = 0 ∨ i = 1 ∨ i = 2 ∨ i = 3 by omega) with rfl | rfl | rfl | rfl
        · have hsome := Option.some.inj hsome
          refine sw_tsIn (tgt := 76) dX9_of_47 (by decide) (by decide) (by rfl) (by decide) ?_
          refine sw_aload_n dX9_of_76 rfl ?_
          refine sw_getf dX9_of_77 fl_X9_7 (h5) rfl ?_
          refine sw_iconst (v := 5) dX9_of_80 (by decide) ?_
          refine sw_iload_n dX9_of_81 rfl ?_
          refine sw_iadd dX9_of_82 ?_
          refine sw_iald dX9_of_83 (h6) (wi (ix2 (a := 5)) (by omega) (by omega)) (wv (ix2 (a := 5)) (by omega) ((hR.2.1 j (by omega)).1.trans hsome)) ?_
          exact sw_ireturn dX9_of_84 rfl rfl (⟨rfl, ⟨_, _, _, H0, rfl⟩, D0⟩)
        · have hsome := Option.some.inj hsome
          refine sw_tsIn (tgt := 85) dX9_of_47 (by decide) (by decide) (by rfl) (by decide) ?_
          refine sw_aload_n dX9_of_85 rfl ?_
          refine sw_getf dX9_of_86 fl_X9_7 (h5) rfl ?_
          refine sw_bipush (v := 13) dX9_of_89 (by decide) ?_
          refine sw_iload_n dX9_of_91 rfl ?_
          refine sw_iadd dX9_of_92 ?_
          refine sw_iald dX9_of_93 (h6) (wi (ix2 (a := 13)) (by omega) (by omega)) (wv (ix2 (a := 13)) (by omega) ((hR.2.1 j (by omega)).2.trans hsome)) ?_
          exact sw_ireturn dX9_of_94 rfl rfl (⟨rfl, ⟨_, _, _, H0, rfl⟩, D0⟩)
        · have hsome := Option.some.inj hsome
          refine sw_tsIn (tgt := 95) dX9_of_47 (by decide) (by decide) (by rfl) (by decide) ?_
          rw [offI_N (by omega) (by omega)] at hsome
          refine sw_aload_n dX9_of_95 rfl ?_
          refine sw_iload_n dX9_of_96 rfl ?_
          refine sw_aload_n dX9_of_97 rfl ?_
          refine sw_getf dX9_of_98 fl_X9_7 (h5) rfl ?_
          refine sw_iconst (v := 0) dX9_of_101 (by decide) ?_
          refine sw_iald dX9_of_102 (h6) (vp_in_nI (n := 0) (by omega) (by omega)) (hR.1.1) ?_
          refine sw_pcv2 dX9_of_103 cv_X9_53 (rc_of h5 rfl) (n_offset (b := j) (p := s.1.p) h5 h6 (by omega) (by omega) (by omega)) ?_
          exact sw_ireturn dX9_of_106 rfl rfl (⟨by rw [(hR.2.1 j (by omega)).1, hsome]; rfl, ⟨_, _, _, H0, rfl⟩, D0⟩)
        · have hsome := Option.some.inj hsome
          refine sw_tsIn (tgt := 107) dX9_of_47 (by decide) (by decide) (by rfl) (by decide) ?_
          rw [skpI_N (by omega) (by omega)] at hsome
          refine sw_aload_n dX9_of_107 rfl ?_
          refine sw_iload_n dX9_of_108 rfl ?_
          refine sw_aload_n dX9_of_109 rfl ?_
          refine sw_getf dX9_of_110 fl_X9_7 (h5) rfl ?_
          refine sw_iconst (v := 0) dX9_of_113 (by decide) ?_
          refine sw_iald dX9_of_114 (h6) (vp_in_nI (n := 0) (by omega) (by omega)) (hR.1.1) ?_
          refine sw_pcv2 dX9_of_115 cv_X9_56 (rc_of h5 rfl) (n_skip (b := j) (p := s.1.p) h5 h6 (by omega) (by omega) (by omega)) ?_
          exact sw_ireturn dX9_of_118 rfl rfl (⟨by rw [(hR.2.1 j (by omega)).1, hsome]; rfl, ⟨_, _, _, H0, rfl⟩, D0⟩)
      · have hx' := v13.mp hx
        rw [if_pos hx'] at hsome
        have hsome := Option.some.inj hsome
        obtain ⟨gi, hgi, hge⟩ := ga_of hx'.2
        rw [hge, nI_clamp (by omega)] at hsome
        refine sw_tsOut (tgt := 119) dX9_of_47 (Or.inr (by have a := Int32.le_iff_toInt_le.mp hx.1; have e1 : (10 : Int32).toInt = 10 := rfl; omega)) (by decide) ?_
        refine sw_aload_n dX9_of_119 rfl ?_
        refine sw_iload_n dX9_of_120 rfl ?_
        refine sw_bipush (v := 10) dX9_of_121 (by decide) ?_
        refine sw_isub dX9_of_123 ?_
        rw [hge]
        refine sw_iload_n dX9_of_124 rfl ?_
        refine sw_pcv2 dX9_of_125 cv_X9_50 (rc_of h5 rfl) (n_stateOf (g := gi) (b := j) h5 h6 hgi (by omega)) ?_
        exact sw_ireturn dX9_of_128 rfl rfl (⟨by rw [(hR.2.2.1 gi hgi).1 j (by omega), hsome]; rfl, ⟨_, _, _, H0, rfl⟩, D0⟩)
    · exact absurd (show (0 : Int32) ≤ 0 by decide) hq
  refine sw_aload_n dX9_of_0 rfl ?_
  refine sw_aload_n dX9_of_1 rfl ?_
  refine sw_iload_n dX9_of_2 rfl ?_
  refine sw_pcv1 dX9_of_3 cv_X9_122 (rc_of h5 rfl) (n_isBack h5 h6 hR.1.2.1 (by omega)) ?_
  refine sw_ifeq (tgt := 33) dX9_of_6 (by decide) (fun h1 => ?_) (fun h1 => ?_)
  · exact no (if_neg (bz_eq0.mp h1))
  · have h1 := bz_eq1.mp h1
    have four : (0 ≤ x ∧ x ≤ 3) → ∃ k, c_of s b x = some k := by
      intro hx
      obtain ⟨i, hi, rfl⟩ := nI_of2 (M := 3) (n := 3) rfl (nI_not0 hx.1) hx.2
      unfold c_of
      rw [if_pos h1]
      rcases (show i = 0 ∨ i = 1 ∨ i = 2 ∨ i = 3 by omega) with rfl | rfl | rfl | rfl
      · exact ⟨_, rfl⟩
      · exact ⟨_, rfl⟩
      · exact ⟨_, rfl⟩
      · exact ⟨_, rfl⟩
    refine sw_iload_n dX9_of_9 rfl ?_
    refine sw_iconst (v := 0) dX9_of_10 (by decide) ?_
    refine sw_iconst (v := 3) dX9_of_11 (by decide) ?_
    refine sw_pcs3 dX9_of_12 cs_X9_39 (n_in) ?_
    refine sw_ifne (tgt := 29) dX9_of_15 (by decide) (fun h2 => ?_) (fun h2 => ?_)
    · have h2 := bz_eq1.mp h2
      obtain ⟨k, hk⟩ := four h2
      exact yes k hk (Or.inl h2) h1
    · have h2 := bz_eq0.mp h2
      refine sw_iload_n dX9_of_18 rfl ?_
      refine sw_bipush (v := 10) dX9_of_19 (by decide) ?_
      refine sw_bipush (v := 13) dX9_of_21 (by decide) ?_
      refine sw_pcs3 dX9_of_23 cs_X9_39 (n_in) ?_
      refine sw_ifeq (tgt := 33) dX9_of_26 (by decide) (fun h3 => ?_) (fun h3 => ?_)
      · have h3 := bz_eq0.mp h3
        refine no ?_
        unfold c_of
        rw [if_pos h1, if_neg (fun q => h3 (v13.mpr q)), if_neg (fun q => h2 (by rw [q]; decide)), if_neg (fun q => h2 (by rw [q]; decide)), if_neg (fun q => h2 (by rw [q]; decide)), if_neg (fun q => h2 (by rw [q]; decide))]
      · have h3 := bz_eq1.mp h3
        exact yes ((s.1.gs (x - 10).toNatClampNeg).1 b.toNatClampNeg) (by unfold c_of; rw [if_pos h1, if_pos (v13.mp h3)]) (Or.inr h3) h1
theorem n_thrown {G : SG} {d : Nat} {h : AH} {v : MV} (h5 : MoAt h v) : SW G mX9_thrown d 0 0 0 [.ref 75] [] h (fun r h' => r = some (.int v.1) ∧ h' = h) := by
  refine sw_aload_n dX9_thrown_0 rfl ?_
  refine sw_getf dX9_thrown_1 fl_X9_35 (h5) rfl ?_
  exact sw_ireturn dX9_thrown_4 rfl rfl (⟨rfl, rfl⟩)
