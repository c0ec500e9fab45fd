theorem MR.mk' {f f' : Nat → Int32} {w w' : WS} (hR : MR f w) (ek : w'.ks = w.ks) (ew : w'.wt = w.wt) (ep : w'.p = w.p) (en : w'.n = w.n) (h2 : f' 2 = w'.ck) (h3 : f' 3 = w'.rm) (h4 : f' 4 = w'.ag) (ho : ∀ i, i < 53 ∨ 249 ≤ i → i ≠ 2 → i ≠ 3 → i ≠ 4 → f' i = f i) (hgs : ∀ g, g < 4 → (w'.gs g).1 = (w.gs g).1 ∧ (w'.gs g).2.1 = (w.gs g).2.1 ∧ (w'.gs g).2.2.1 = (w.gs g).2.2.1) (hm : MLs f' (fun g => (w'.gs g).2.2.2)) : MR f' w' := by
  obtain ⟨⟨a, b, c, d, e⟩, k, gr, ml⟩ := hR
  refine ⟨⟨by rw [ep]; exact (ho 0 (by omega) (by omega) (by omega) (by omega)).trans a, by rw [en]; exact (ho 1 (by omega) (by omega) (by omega) (by omega)).trans b, h2, h3, h4⟩, fun b hb => ?_, fun g hg => ?_, hm⟩
  · rw [ek, ew]
    exact ⟨(ho _ (by omega) (by omega) (by omega) (by omega)).trans (k b hb).1, (ho _ (by omega) (by omega) (by omega) (by omega)).trans (k b hb).2⟩
  · obtain ⟨x, y, z⟩ := gr g hg
    obtain ⟨s1, s2, s3⟩ := hgs g hg
    refine ⟨fun b hb => by rw [s1]; exact (ho _ (by omega) (by omega) (by omega) (by omega)).trans (x b hb), by rw [s3]; exact (ho _ (by omega) (by omega) (by omega) (by omega)).trans y, fun q s hs => ?_⟩
    rw [s3] at q
    rw [ep] at hs
    rw [s2]
    exact (ho _ (by omega) (by omega) (by omega) (by omega)).trans (z q s hs)
theorem memF_g {F : List E3 → List E3} {w : WS} {g : Nat} (hg : g < 4) : (mapG (memF F) 4 w.gs g).1 = (w.gs g).1 ∧ (mapG (memF F) 4 w.gs g).2.1 = (w.gs g).2.1 ∧ (mapG (memF F) 4 w.gs g).2.2.1 = (w.gs g).2.2.1 ∧ (mapG (memF F) 4 w.gs g).2.2.2 = F (w.gs g).2.2.2 := by
  rw [mapG_lt hg]
  exact ⟨rfl, rfl, rfl, rfl⟩
theorem tm_of {n t a : Nat} {es : List E3} (ht : t < 2 ^ 30) (h : ∀ e ∈ es, eOk n t a e) : ∀ e ∈ es, ∃ t', t' < 2 ^ 30 ∧ e.2.2 = nI t' := by
  intro e he
  obtain ⟨t', a, b, c⟩ := (h e he).2.2
  exact ⟨t', by omega, c⟩
theorem keep_iff {t a t' : Nat} {e : E3} (ht : t < 2 ^ 30) (ha : a < 2 ^ 30) (ht' : t' < 2 ^ 30) (he : e.2.2 = nI t') : (e.2.2 < nI t - nI a) ↔ t' + a < t := by
  rw [he, Int32.lt_iff_toInt_lt, pk_sub_toInt ht ha, nI_toInt (by omega)]
  omega
theorem keep_self {n t a : Nat} {es : List E3} (ht : t < 2 ^ 30) (ha : a ≤ 99) (h : ∀ e ∈ es, eOk n t a e) : keepL (nI t - nI a) es = es := by
  unfold keepL
  rw [List.filter_eq_self]
  intro e he
  obtain ⟨t', x, y, z⟩ := (h e he).2.2
  simp only [Bool.not_eq_true', decide_eq_false_iff_not]
  rw [keep_iff ht (by omega) (by omega) z]
  omega
theorem shr_self {r : Nat} {es : List E3} (hr : r < 2 ^ 31) (h : es.length ≤ r) : shrL (nI r) 16 es = es := by
  unfold shrL
  rw [if_pos (nI_le h hr)]
theorem shr_len {r : Nat} {es : List E3} (hr : 1 ≤ r) (hr16 : r ≤ 16) (h : es.length ≤ 16) : (shrL (nI r) 16 es).length ≤ r := shrL_len (by omega) 16 es (by omega) h
/-! time goes by -/
theorem n_ticks {G : SG} {d t a r k : Nat} {h : AH} {v : MV} {f : Nat → Int32} {w : WS} (h5 : MoAt h v) (h6 : RoAt h f) (hR : MR f w) (hC : cIn w t a r) (ht : t + k < 2 ^ 30) : SW G mX9_ticks (d + 3) 0 0 0 [.ref 75, .int (nI k)] [] h (fun r h' => r = some (.int (w.ck + nI k)) ∧ SameR h h' ∧ ∃ f', RoAt h' f' ∧ MR f' (tckW w (nI k))) := by
  have hck : w.ck = nI t := hC.2.2.2.2.2.1.1
  have hag : w.ag = nI a := hC.2.2.2.2.2.1.2.1
  have ha := hC.2.2.2.1
  refine sw_aload_n dX9_ticks_0 rfl ?_
  refine sw_getf dX9_ticks_1 fl_X9_7 (h5) rfl ?_
  refine sw_iconst (v := 2) dX9_ticks_4 (by decide) ?_
  refine sw_dup2 dX9_ticks_5 rfl rfl ?_
  refine sw_iald dX9_ticks_6 (h6) (vp_in_nI (n := 2) (by omega) (by omega)) (hR.1.2.2.1.trans hck) ?_
  refine sw_iload_n dX9_ticks_7 rfl ?_
  refine sw_iadd dX9_ticks_8 ?_
  refine sw_iast dX9_ticks_9 (h6) (vp_in_nI (n := 2) (by omega) (by omega)) (fun g1 z1 e1 o1 => ?_)
  rw [nI_add] at e1
  have e1 : RoAt g1 (upd f 2 (nI (t + k))) := e1
  have h5 : MoAt g1 v := (o1 75 (by omega)).trans h5
  refine sw_aload_n dX9_ticks_10 rfl ?_
  refine sw_cv0 dX9_ticks_11 cv_X9_103 (rc_of h5 rfl) (n_ages (t := t + k) (a := a) (es := fun g => (w.gs g).2.2.2) h5 e1 (hR.2.2.2.out (fun i x y => upd_ne (by omega))) upd_at (by rw [upd_ne (by omega)]; exact hR.1.2.2.2.2.trans hag) (by omega) ha (fun g hg => tm_of (by omega) (hC.2.2.2.2.2.2 g hg).2.2.2.2.2)) (fun r g2 hr => ?_)
  obtain ⟨rfl, hS, f', h6', hM, hA⟩ := hr
  have h5 : MoAt g2 v := (hS.2 75 (by omega)).trans h5
  have e2 : f' 2 = nI (t + k) := (hA 2 (by omega)).trans upd_at
  have hMR : MR f' (tckW w (nI k)) := by
    refine hR.mk' (w' := tckW w (nI k)) rfl rfl rfl rfl ?_ ?_ ?_ (fun i x y z u => by rw [hA i x, upd_ne y]) (fun g hg => ?_) ?_
    · show f' 2 = w.ck + nI k
      rw [e2, hck, nI_add]
    · rw [hA 3 (by omega), upd_ne (by omega)]; exact hR.1.2.2.2.1
    · rw [hA 4 (by omega), upd_ne (by omega)]; exact hR.1.2.2.2.2
    · have := memF_g (F := keepL (w.ck + nI k - w.ag)) (w := w) hg
      exact ⟨this.1, this.2.1, this.2.2.1⟩
    · refine hM.cg (fun g hg => ?_)
      have := (memF_g (F := keepL (w.ck + nI k - w.ag)) (w := w) hg).2.2.2
      show _ = (mapG (memF (keepL (w.ck + nI k - w.ag))) 4 w.gs g).2.2.2
      rw [this, hck, hag, nI_add]
  refine sw_aload_n dX9_ticks_14 rfl ?_
  refine sw_getf dX9_ticks_15 fl_X9_7 (h5) rfl ?_
  refine sw_iconst (v := 2) dX9_ticks_18 (by decide) ?_
  refine sw_iald dX9_ticks_19 (h6') (vp_in_nI (n := 2) (by omega) (by omega)) (e2) ?_
  exact sw_ireturn dX9_ticks_20 rfl rfl (⟨by rw [hck, nI_add], SameR.tr ⟨z1, o1⟩ hS, f', h6', hMR⟩)
theorem cIn.age {w : WS} {t a r : Nat} (hp : w.p ∈ szN) (hn : w.n ≤ 8) (hw : ∀ b, b < w.n → ∃ k, 1 ≤ k ∧ k ≤ 9 ∧ w.wt b = nI k) (ha : a ≤ 99) (hr : 1 ≤ r ∧ r ≤ 16) (hck : w.ck = nI t ∧ w.ag = nI a ∧ w.rm = nI r) (ht : t < 2 ^ 30) (hg : ∀ g, g < 4 → ∃ t0 a0, t0 ≤ t ∧ gOk w.p w.n r t0 a0 (w.gs g)) : cIn (ageW w) t a r := by
  refine ⟨hp, hn, hw, ha, hr, hck, fun g hgg => ?_⟩
  show gOk w.p w.n r t a (mapG (memF (keepL (w.ck - w.ag))) 4 w.gs g)
  rw [mapG_lt hgg]
  obtain ⟨t0, a0, ht0, x, y, z, s, l, o⟩ := hg g hgg
  refine ⟨x, y, z, s.sub List.filter_sublist, Nat.le_trans (List.filter_sublist).length_le l, fun e he => ?_⟩
  have he := List.mem_filter.mp he
  obtain ⟨p1, p2, t', q1, q2, q3⟩ := o e he.1
  refine ⟨p1, p2, t', by omega, ?_, q3⟩
  have h2 := he.2
  simp only [Bool.not_eq_true', decide_eq_false_iff_not] at h2
  rw [hck.1, hck.2.1, keep_iff ht (by omega) (by omega) q3] at h2
  omega
theorem cIn.tick {w : WS} {t a r k : Nat} (hC : cIn w t a r) (ht : t + k < 2 ^ 30) : cIn (tckW w (nI k)) (t + k) a r := by
  obtain ⟨hp, hn, hw, ha, hr, hck, hg⟩ := hC
  exact cIn.age (w := (w.1, w.2.1, w.2.2.1, w.2.2.2.1, w.ck + nI k, w.2.2.2.2.2.1, w.2.2.2.2.2.2.1, w.gs)) hp hn hw ha hr ⟨by show w.ck + nI k = _; rw [hck.1, nI_add], hck.2⟩ ht (fun g hgg => ⟨t, a, by omega, hg g hgg⟩)
theorem cIn.agw {w : WS} {t a r a' : Nat} (hC : cIn w t a r) (ha' : a' ≤ 99) (ht : t < 2 ^ 30) : cIn (agW w (nI a')) t a' r := by
  obtain ⟨hp, hn, hw, ha, hr, hck, hg⟩ := hC
  exact cIn.age (w := (w.1, w.2.1, w.2.2.1, w.2.2.2.1, w.2.2.2.2.1, w.2.2.2.2.2.1, nI a', w.gs)) hp hn hw ha' hr ⟨hck.1, rfl, hck.2.2⟩ ht (fun g hgg => ⟨t, a, Nat.le_refl _, hg g hgg⟩)
theorem cIn.rmw {w : WS} {t a r r' : Nat} (hC : cIn w t a r) (hr1 : 1 ≤ r' ∧ r' ≤ 16) : cIn (rmW w (nI r')) t a r' := by
  obtain ⟨hp, hn, hw, ha, hr, hck, hg⟩ := hC
  refine ⟨hp, hn, hw, ha, hr1, ⟨hck.1, hck.2.1, rfl⟩, fun g hgg => ?_⟩
  show gOk w.p w.n r' t a (mapG (memF (shrL (nI r') 16)) 4 w.gs g)
  rw [mapG_lt hgg]
  obtain ⟨x, y, z, s, l, o⟩ := hg g hgg
  refine ⟨x, y, z, s.sub (shrL_sub _ _ _), shr_len hr1.1 hr1.2 (by omega), fun e he => o e ((shrL_sub _ _ _).subset he)⟩
/-! room and age -/
theorem n_holds0 {G : SG} {d t a r r' : Nat} {h : AH} {v : MV} {f : Nat → Int32} {w : WS} (h5 : MoAt h v) (h6 : RoAt h f) (hR : MR f w) (hC : cIn w t a r) (ht : t < 2 ^ 30) (hr1 : 1 ≤ r' ∧ r' ≤ 16) : SW G mX9_holds (d + 3) 0 0 0 [.ref 75, .int 0, .int (nI r')] [] h (fun r h' => r = none ∧ SameR h h' ∧ ∃ f', RoAt h' f' ∧ MR f' (rmW w (nI r'))) := by
  have hck : w.ck = nI t := hC.2.2.2.2.2.1.1
  have hag : w.ag = nI a := hC.2.2.2.2.2.1.2.1
  have ha := hC.2.2.2.1
  refine sw_aload_n dX9_holds_0 rfl ?_
  refine sw_getf dX9_holds_1 fl_X9_7 (h5) rfl ?_
  refine sw_iconst (v := 3) dX9_holds_4 (by decide) ?_
  refine sw_iload_n dX9_holds_5 rfl ?_
  refine sw_iadd dX9_holds_6 ?_
  refine sw_iload_n dX9_holds_7 rfl ?_
  refine sw_iast dX9_holds_8 (h6) (vp_in_nI (n := 3) (by omega) (by omega)) (fun g1 z1 e1 o1 => ?_)
  have e1 : RoAt g1 (upd f 3 (nI r')) := e1
  have h5 : MoAt g1 v := (o1 75 (by omega)).trans h5
  refine sw_aload_n dX9_holds_9 rfl ?_
  refine sw_cv0 dX9_holds_10 cv_X9_103 (rc_of h5 rfl) (n_ages (t := t) (a := a) (es := fun g => (w.gs g).2.2.2) h5 e1 (hR.2.2.2.out (fun i x y => upd_ne (by omega))) (by rw [upd_ne (by omega)]; exact hR.1.2.2.1.trans hck) (by rw [upd_ne (by omega)]; exact hR.1.2.2.2.2.trans hag) ht ha (fun g hg => tm_of ht (hC.2.2.2.2.2.2 g hg).2.2.2.2.2)) (fun rr g2 hr => ?_)
  obtain ⟨rfl, hS, f', h6', hM, hA⟩ := hr
  have h5 : MoAt g2 v := (hS.2 75 (by omega)).trans h5
  have hM : MLs f' (fun g => (w.gs g).2.2.2) := hM.cg (fun g hg => keep_self ht ha (hC.2.2.2.2.2.2 g hg).2.2.2.2.2)
  refine sw_aload_n dX9_holds_13 rfl ?_
  refine sw_cv0 dX9_holds_14 cv_X9_106 (rc_of h5 rfl) (n_fits (r := r') h5 h6' hM ((hA 3 (by omega)).trans upd_at) (by omega) (fun g hg => (hC.2.2.2.2.2.2 g hg).2.2.2.1)) (fun rr g3 hr => ?_)
  obtain ⟨rfl, hS3, f3, h63, hM3, hA3⟩ := hr
  have hMR : MR f3 (rmW w (nI r')) := by
    refine hR.mk' (w' := rmW w (nI r')) rfl rfl rfl rfl ?_ ?_ ?_ (fun i x y z u => by rw [hA3 i x, hA i x, upd_ne z]) (fun g hg => ?_) ?_
    · rw [hA3 2 (by omega), hA 2 (by omega), upd_ne (by omega)]; exact hR.1.2.2.1
    · rw [hA3 3 (by omega), hA 3 (by omega), upd_at]; rfl
    · rw [hA3 4 (by omega), hA 4 (by omega), upd_ne (by omega)]; exact hR.1.2.2.2.2
    · have := memF_g (F := shrL (nI r') 16) (w := w) hg
      exact ⟨this.1, this.2.1, this.2.2.1⟩
    · exact hM3.cg (fun g hg => (memF_g (F := shrL (nI r') 16) (w := w) hg).2.2.2.symm)
  exact sw_return dX9_holds_17 rfl (⟨rfl, SameR.tr ⟨z1, o1⟩ (hS.tr hS3), f3, h63, hMR⟩)
theorem n_holds1 {G : SG} {d t a r a' : Nat} {h : AH} {v : MV} {f : Nat → Int32} {w : WS} (h5 : MoAt h v) (h6 : RoAt h f) (hR : MR f w) (hC : cIn w t a r) (ht : t < 2 ^ 30) (ha' : a' ≤ 99) : SW G mX9_holds (d + 3) 0 0 0 [.ref 75, .int 1, .int (nI a')] [] h (fun r h' => r = none ∧ SameR h h' ∧ ∃ f', RoAt h' f' ∧ MR f' (agW w (nI a'))) := by
  have hck : w.ck = nI t := hC.2.2.2.2.2.1.1
  have hrm : w.rm = nI r := hC.2.2.2.2.2.1.2.2
  have hr16 := hC.2.2.2.2.1
  refine sw_aload_n dX9_holds_0 rfl ?_
  refine sw_getf dX9_holds_1 fl_X9_7 (h5) rfl ?_
  refine sw_iconst (v := 3) dX9_holds_4 (by decide) ?_
  refine sw_iload_n dX9_holds_5 rfl ?_
  refine sw_iadd dX9_holds_6 ?_
  refine sw_iload_n dX9_holds_7 rfl ?_
  refine sw_iast dX9_holds_8 (h6) (vp_in_nI (n := 4) (by omega) (by omega)) (fun g1 z1 e1 o1 => ?_)
  have e1 : RoAt g1 (upd f 4 (nI a')) := e1
  have h5 : MoAt g1 v := (o1 75 (by omega)).trans h5
  refine sw_aload_n dX9_holds_9 rfl ?_
  refine sw_cv0 dX9_holds_10 cv_X9_103 (rc_of h5 rfl) (n_ages (t := t) (a := a') (es := fun g => (w.gs g).2.2.2) h5 e1 (hR.2.2.2.out (fun i x y => upd_ne (by omega))) (by rw [upd_ne (by omega)]; exact hR.1.2.2.1.trans hck) upd_at ht ha' (fun g hg => tm_of ht (hC.2.2.2.2.2.2 g hg).2.2.2.2.2)) (fun rr g2 hr => ?_)
  obtain ⟨rfl, hS, f', h6', hM, hA⟩ := hr
  have h5 : MoAt g2 v := (hS.2 75 (by omega)).trans h5
  refine sw_aload_n dX9_holds_13 rfl ?_
  refine sw_cv0 dX9_holds_14 cv_X9_106 (rc_of h5 rfl) (n_fits (r := r) h5 h6' hM (by rw [hA 3 (by omega), upd_ne (by omega)]; exact hR.1.2.2.2.1.trans hrm) (by omega) (fun g hg => (hC.2.2.2.2.2.2 g hg).2.2.2.1.sub List.filter_sublist)) (fun rr g3 hr => ?_)
  obtain ⟨rfl, hS3, f3, h63, hM3, hA3⟩ := hr
  have hMR : MR f3 (agW w (nI a')) := by
    refine hR.mk' (w' := agW w (nI a')) rfl rfl rfl rfl ?_ ?_ ?_ (fun i x y z u => by rw [hA3 i x, hA i x, upd_ne u]) (fun g hg => ?_) ?_
    · rw [hA3 2 (by omega), hA 2 (by omega), upd_ne (by omega)]; exact hR.1.2.2.1
    · rw [hA3 3 (by omega), hA 3 (by omega), upd_ne (by omega)]; exact hR.1.2.2.2.1
    · rw [hA3 4 (by omega), hA 4 (by omega), upd_at]; rfl
    · have := memF_g (F := keepL (w.ck - nI a')) (w := w) hg
      exact ⟨this.1, this.2.1, this.2.2.1⟩
    · refine hM3.cg (fun g hg => ?_)
      have := (memF_g (F := keepL (w.ck - nI a')) (w := w) hg).2.2.2
      show _ = (mapG (memF (keepL (w.ck - nI a'))) 4 w.gs g).2.2.2
      rw [this, hck]
      exact shr_self (by omega) (Nat.le_trans (List.filter_sublist).length_le (hC.2.2.2.2.2.2 g hg).2.2.2.2.1)
  exact sw_return dX9_holds_17 rfl (⟨rfl, SameR.tr ⟨z1, o1⟩ (hS.tr hS3), f3, h63, hMR⟩)
theorem n_canHold {G : SG} {d : Nat} {h : AH} {a v : Int32} : SW G mX9_canHold (d + 1) 0 0 0 [.int a, .int v] [] h (fun r h' => r = some (.int (bz ((a = 0 ∧ 1 ≤ v ∧ v ≤ 16) ∨ (a = 1 ∧ 0 ≤ v ∧ v ≤ 99)))) ∧ h' = h) := by
  refine sw_iload_n dX9_canHold_0 rfl ?_
  refine sw_ifne (tgt := 14) dX9_canHold_1 (by decide) (fun h0 => ?_) (fun h0 => ?_)
  · refine sw_iload_n dX9_canHold_14 rfl ?_
    refine sw_iconst (v := 1) dX9_canHold_15 (by decide) ?_
    refine sw_cmpne (tgt := 33) dX9_canHold_16 (by decide) (fun h1 => ?_) (fun h1 => ?_)
    · rw [bz_0 (fun q => q.elim (fun x => h0 x.1) (fun x => h1 x.1))]
      refine sw_iconst (v := 0) dX9_canHold_33 (by decide) ?_
      exact sw_ireturn dX9_canHold_34 rfl rfl (⟨rfl, rfl⟩)
    · refine sw_iload_n dX9_canHold_19 rfl ?_
      refine sw_iconst (v := 0) dX9_canHold_20 (by decide) ?_
      refine sw_bipush (v := 99) dX9_canHold_21 (by decide) ?_
      refine sw_pcs3 dX9_canHold_23 cs_X9_39 (n_in) ?_
      refine sw_ifeq (tgt := 33) dX9_canHold_26 (by decide) (fun h2 => ?_) (fun h2 => ?_)
      · rw [bz_0 (fun q => q.elim (fun x => h0 x.1) (fun x => bz_eq0.mp h2 x.2))]
        refine sw_iconst (v := 0) dX9_canHold_33 (by decide) ?_
        exact sw_ireturn dX9_canHold_34 rfl rfl (⟨rfl, rfl⟩)
      · rw [bz_1 (Or.inr ⟨h1, bz_eq1.mp h2⟩)]
        refine sw_iconst (v := 1) dX9_canHold_29 (by decide) ?_
        refine sw_goto (tgt := 34) dX9_canHold_30 (by decide) ?_
        exact sw_ireturn dX9_canHold_34 rfl rfl (⟨rfl, rfl⟩)
  · have hiff : (1 ≤ v ∧ v ≤ 16) ↔ ((a = 0 ∧ 1 ≤ v ∧ v ≤ 16) ∨ (a = 1 ∧ 0 ≤ v ∧ v ≤ 99)) := ⟨fun q => Or.inl ⟨h0, q⟩, fun q => q.elim (fun x => x.2) (fun x => by rw [h0] at x; exact absurd x.1 (by decide))⟩
    refine sw_iload_n dX9_canHold_4 rfl ?_
    refine sw_iconst (v := 1) dX9_canHold_5 (by decide) ?_
    refine sw_bipush (v := 16) dX9_canHold_6 (by decide) ?_
    refine sw_pcs3 dX9_canHold_8 cs_X9_39 (n_in) ?_
    refine sw_goto (tgt := 34) dX9_canHold_11 (by decide) ?_
    exact sw_ireturn dX9_canHold_34 rfl (bz_nar _) (⟨by rw [bz_iff hiff], rfl⟩)
