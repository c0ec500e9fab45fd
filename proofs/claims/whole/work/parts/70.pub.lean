/-! the tape of the reference -/
theorem sh_eq (v : Int32) (k : Nat) (hk : k ≤ 24) : (v >>> (nI k &&& 31)) &&& 255 = ushr v (nI k) &&& 255 := by
  have hs : ((nI k &&& 31).toBitVec.smod 32).toNat = k := by
    have : ∀ k, k < 25 → ((nI k &&& 31).toBitVec.smod 32).toNat = k := by decide +kernel
    exact this k (by omega)
  have hu : (((nI k).toUInt32 &&& Int32.toUInt32 31).toBitVec % 32).toNat = k := by
    have : ∀ k, k < 25 → (((nI k).toUInt32 &&& Int32.toUInt32 31).toBitVec % 32).toNat = k := by decide +kernel
    exact this k (by omega)
  have h1 := pk_shr v (nI k &&& 31) k hs
  have h2 := pk_ushr v (nI k) k hu
  rw [pk_and (v >>> (nI k &&& 31)) 8 (by decide), pk_and (ushr v (nI k)) 8 (by decide)]
  have e2 : (ushr v (nI k)).toBitVec.toNat = v.toBitVec.toNat / 2 ^ k := h2
  rw [e2]
  have e1 : (v >>> (nI k &&& 31)).toBitVec.toInt = v.toBitVec.toInt >>> k := h1
  rw [Int.shiftRight_eq_div_pow] at e1
  congr 1
  have hv := v.toBitVec.isLt
  have hw := (v >>> (nI k &&& 31)).toBitVec.isLt
  generalize (v >>> (nI k &&& 31)).toBitVec = W at e1 hw
  generalize v.toBitVec = V at e1 hv
  rw [BitVec.toInt_eq_toNat_cond, BitVec.toInt_eq_toNat_cond] at e1
  have key : ∀ j : Nat, j ≤ 24 → j = k → W.toNat % 2 ^ 8 = V.toNat / 2 ^ k % 2 ^ 8 := by
    intro j hj hjk
    subst hjk
    split at e1 <;> split at e1
    · have : ((V.toNat / 2 ^ j : Nat) : Int) = (V.toNat : Int) / (2 ^ j : Nat) := Int.natCast_ediv _ _
      have : (W.toNat : Int) = ((V.toNat / 2 ^ j : Nat) : Int) := by rw [this]; exact e1
      rw [Int.ofNat_inj.mp this]
    · exfalso
      have hneg : (V.toNat : Int) - (2 ^ 32 : Nat) < 0 := by omega
      have := Int.ediv_neg_of_neg_of_pos hneg (show (0 : Int) < (2 ^ j : Nat) from by exact_mod_cast Nat.two_pow_pos j)
      omega
    · exfalso
      have : (0 : Int) ≤ (V.toNat : Int) / (2 ^ j : Nat) := Int.ediv_nonneg (by omega) (Int.natCast_nonneg _)
      omega
    · -- both negative: V = 2^32 - a
      have e3 : ((V.toNat : Int) - (2 ^ 32 : Nat)) / (2 ^ j : Nat) = (V.toNat : Int) / (2 ^ j : Nat) - (2 ^ (32 - j) : Nat) := by
        have : ((2 ^ 32 : Nat) : Int) = (2 ^ (32 - j) : Nat) * (2 ^ j : Nat) := by
          rw [← Int.natCast_mul, ← Nat.pow_add, show 32 - j + j = 32 by omega]
        rw [this, Int.sub_mul_ediv_right _ _ (by have := Nat.two_pow_pos j; omega)]
      rw [e3] at e1
      have e4 : ((V.toNat / 2 ^ j : Nat) : Int) = (V.toNat : Int) / (2 ^ j : Nat) := Int.natCast_ediv _ _
      rw [← e4] at e1
      have h256 : 2 ^ (32 - j) = 2 ^ 8 * 2 ^ (24 - j) := by rw [← Nat.pow_add]; congr 1; omega
      have hle : 2 ^ (32 - j) ≤ 2 ^ 32 := Nat.pow_le_pow_right (by omega) (by omega)
      have e5 : W.toNat + 2 ^ (32 - j) = V.toNat / 2 ^ j + 2 ^ 32 := by
        have : (W.toNat : Int) + (2 ^ (32 - j) : Nat) = (V.toNat / 2 ^ j : Nat) + (2 ^ 32 : Nat) := by omega
        exact_mod_cast this
      rw [h256] at e5
      generalize V.toNat / 2 ^ j = q at e5
      generalize 2 ^ (24 - j) = z at e5
      omega
  exact key k hk rfl
def SameT4 (h h' : AH) : Prop := h'.length = h.length ∧ ∀ j, j ≠ 75 → j ≠ 83 → h'[j]? = h[j]?
theorem four_1 {G : SG} {d n k : Nat} {h : AH} {v : MV} {tp : Nat → Int32} {x kn : Int32} {P : Option Value → AH → Prop} (h5 : MoAt h v) (h83 : h[83]? = some (.inl (0, 400, .inl tp))) (hv : v.2.1 = nI n) (hn : n < 400) (hk : k ≤ 24) (hkn : nI k + (-8) = kn) (kk : ∀ h', SameT4 h h' → MoAt h' (v.1, nI (n + 1), v.2.2) → h'[83]? = some (.inl (0, 400, .inl (upd tp n (ushr x (nI k) &&& 255)))) → SW G mX9_four d 0 0 3 [.ref 75, .int x, .int kn] [] h' P) : SW G mX9_four d 0 0 3 [.ref 75, .int x, .int (nI k)] [] h P := by
  refine sw_iload_n dX9_four_3 rfl ?_
  refine sw_iflt (tgt := 39) dX9_four_4 (by decide) (fun hc => ?_) (fun hc => ?_)
  · exact absurd hc (nI_pos (by omega))
  · refine sw_aload_n dX9_four_7 rfl ?_
    refine sw_getf dX9_four_8 fl_X9_32 (h5) rfl ?_
    refine sw_aload_n dX9_four_11 rfl ?_
    refine sw_getf dX9_four_12 fl_X9_148 (h5) rfl ?_
    refine sw_iload_n dX9_four_15 rfl ?_
    refine sw_iload_n dX9_four_16 rfl ?_
    refine sw_ishr dX9_four_17 ?_
    refine sw_sipush (v := 255) dX9_four_18 (by decide) ?_
    refine sw_iand dX9_four_21 ?_
    have hv' : (mFs v)[9]? = some (.int (nI n)) := by show some (Value.int v.2.1) = _; rw [hv]
    show SW G mX9_four d 0 0 22 _ [.int ((x >>> (nI k &&& 31)) &&& 255), .int v.2.1, .ref 83] h P
    rw [hv, sh_eq x k hk]
    refine sw_iast dX9_four_22 (h83) (vp_in_nI (by omega) (by omega)) (fun g1 z1 e1 o1 => ?_)
    rw [nIupd (by omega)] at e1
    have h5 : MoAt g1 v := (o1 75 (by omega)).trans h5
    refine sw_aload_n dX9_four_23 rfl ?_
    refine sw_dup dX9_four_24 rfl ?_
    refine sw_getf dX9_four_25 fl_X9_148 (h5) rfl ?_
    refine sw_iconst (v := 1) dX9_four_28 (by decide) ?_
    refine sw_iadd dX9_four_29 ?_
    refine sw_puti dX9_four_30 fl_X9_148 (h5) (Nat.le_of_ble_eq_true rfl) (fun g2 z2 e2 o2 => ?_)
    have e2 : MoAt g2 (v.1, nI (n + 1), v.2.2) := by
      rw [← nI_1, ← hv]; exact e2
    refine sw_iinc (v := kn) dX9_four_33 rfl (hkn) (by decide) rfl ?_
    refine sw_goto (tgt := 3) dX9_four_36 (by decide) ?_
    exact kk g2 ⟨z2.trans z1, fun j a b => (o2 j a).trans (o1 j b)⟩ e2 ((o2 83 (by omega)).trans e1)
theorem n_four {G : SG} {d n : Nat} {h : AH} {v : MV} {tp : Nat → Int32} {x : Int32} (h5 : MoAt h v) (h83 : h[83]? = some (.inl (0, 400, .inl tp))) (hv : v.2.1 = nI n) (hn : n + 4 ≤ 400) : SW G mX9_four d 0 0 0 [.ref 75, .int x, .retAddr 0] [] h (fun r h' => r = none ∧ SameT4 h h' ∧ MoAt h' (v.1, nI (n + 4), v.2.2) ∧ h'[83]? = some (.inl (0, 400, .inl (addT tp n x)))) := by
  refine sw_bipush (v := 24) dX9_four_0 (by decide) ?_
  refine sw_istore_n dX9_four_2 (by decide) rfl ?_
  refine four_1 (k := 24) (kn := 16) h5 h83 hv (by omega) (by omega) (by decide) (fun g1 S1 m1 q1 => ?_)
  refine four_1 (n := n + 1) (k := 16) (kn := 8) m1 q1 rfl (by omega) (by omega) (by decide) (fun g2 S2 m2 q2 => ?_)
  refine four_1 (n := n + 2) (k := 8) (kn := 0) m2 q2 rfl (by omega) (by omega) (by decide) (fun g3 S3 m3 q3 => ?_)
  refine four_1 (n := n + 3) (k := 0) (kn := -8) m3 q3 rfl (by omega) (by omega) (by decide) (fun g4 S4 m4 q4 => ?_)
  refine sw_iload_n dX9_four_3 rfl ?_
  refine sw_iflt (tgt := 39) dX9_four_4 (by decide) (fun hc => ?_) (fun hc => ?_)
  · exact sw_return dX9_four_39 rfl (⟨rfl, ⟨S4.1.trans (S3.1.trans (S2.1.trans S1.1)), fun j a b => (S4.2 j a b).trans ((S3.2 j a b).trans ((S2.2 j a b).trans (S1.2 j a b)))⟩, m4, q4⟩)
  · exact absurd (by decide) hc
theorem addT_lo {tp : Nat → Int32} {n j : Nat} {x : Int32} (h : j < n) : addT tp n x j = tp j := by
  unfold addT
  rw [upd_ne (by omega), upd_ne (by omega), upd_ne (by omega), upd_ne (by omega)]
theorem addT_hi {tp tp' : Nat → Int32} {n j : Nat} {x : Int32} (h : n ≤ j) (h4 : j < n + 4) : addT tp n x j = addT tp' n x j ∧ ∃ c, c < 256 ∧ addT tp n x j = nI c := by
  have b8 : ∀ y : Int32, ∃ c, c < 256 ∧ y &&& 255 = nI c := fun y => pk_andE y 8 (by decide)
  unfold addT
  rcases (show j = n ∨ j = n + 1 ∨ j = n + 2 ∨ j = n + 3 by omega) with rfl | rfl | rfl | rfl
  · rw [upd_ne (by omega), upd_ne (by omega), upd_ne (by omega), upd_at, upd_ne (by omega), upd_ne (by omega), upd_ne (by omega), upd_at]
    exact ⟨rfl, b8 _⟩
  · rw [upd_ne (by omega), upd_ne (by omega), upd_at, upd_ne (by omega), upd_ne (by omega), upd_at]
    exact ⟨rfl, b8 _⟩
  · rw [upd_ne (by omega), upd_at, upd_ne (by omega), upd_at]
    exact ⟨rfl, b8 _⟩
  · rw [upd_at, upd_at]
    exact ⟨rfl, b8 _⟩
def tOk (tp tc : Nat → Int32) (n : Nat) : Prop := ∀ j, j < n → tp j = tc j ∧ ∃ c, c < 256 ∧ tc j = nI c
theorem tOk.add {tp tc : Nat → Int32} {n : Nat} {x : Int32} (h : tOk tp tc n) : tOk (addT tp n x) (addT tc n x) (n + 4) := by
  intro j hj
  by_cases hjn : j < n
  · rw [addT_lo hjn, addT_lo hjn]; exact h j hjn
  · obtain ⟨a, b⟩ := addT_hi (tp := tc) (tp' := tp) (x := x) (show n ≤ j by omega) hj
    exact ⟨a.symm, b⟩
theorem n_feed {G : SG} {d T : Nat} {h : AH} {s : CS} {a b c dd e : Int32} (hM : RM h s T) : SW G mX9_feed (d + 11) 0 0 0 [.ref 75, .int a, .int b, .int c, .int dd, .int e] [] h (fun r h' => r = some (.int (c_feed s a b c dd e).1) ∧ RM h' (c_feed s a b c dd e).2 T ∧ SameD h h') := by
  obtain ⟨v, f, tp, H⟩ := hM
  have h5 := H.1.1
  refine sw_aload_n dX9_feed_0 rfl ?_
  refine sw_iconst (v := 0) dX9_feed_1 (by decide) ?_
  refine sw_puti dX9_feed_2 fl_X9_35 (h5) (Nat.le_of_ble_eq_true rfl) (fun g0 z0 e0 o0 => ?_)
  obtain ⟨H, D0⟩ := H.ra e0 z0 o0
  obtain ⟨⟨h5, h6, h77, hS, h83⟩, hR, hC, ⟨ev, ef⟩, hn, htp⟩ := id H
  have ev : v.2.1 = nI s.2.2.1 := ev
  refine sw_aload_n dX9_feed_5 rfl ?_
  refine sw_getf dX9_feed_6 fl_X9_148 (h5) rfl ?_
  refine sw_bipush (v := 20) dX9_feed_9 (by decide) ?_
  refine sw_iadd dX9_feed_11 ?_
  refine sw_sipush (v := 400) dX9_feed_12 (by decide) ?_
  show SW G mX9_feed (d + 11) 0 0 15 _ [.int 400, .int (v.2.1 + 20)] _ _
  rw [ev]
  refine sw_cmple (tgt := 20) dX9_feed_15 (by decide) (fun hc => ?_) (fun hc => ?_)
  · have hc : nI s.2.2.1 + nI 20 ≤ nI 400 := hc
    rw [nI_add, nI_leI (by omega) (by omega)] at hc
    have hf : c_feed s a b c dd e = (nI (s.2.2.1 + 20), (s.1, addT (addT (addT (addT (addT s.2.1 s.2.2.1 a) (s.2.2.1 + 4) b) (s.2.2.1 + 8) c) (s.2.2.1 + 12) dd) (s.2.2.1 + 16) e, s.2.2.1 + 20, s.2.2.2)) := by unfold c_feed; rw [if_neg (by omega)]
    rw [hf]
    refine sw_aload_n dX9_feed_20 rfl ?_
    refine sw_iload_n dX9_feed_21 rfl ?_
    refine sw_cv1 dX9_feed_22 cv_X9_151 (rc_of h5 rfl) (n_four h5 h83 ev (by omega)) (fun r g1 hr => ?_)
    obtain ⟨rfl, S1, h5, h83⟩ := hr
    refine sw_aload_n dX9_feed_25 rfl ?_
    refine sw_iload_n dX9_feed_26 rfl ?_
    refine sw_cv1 dX9_feed_27 cv_X9_151 (rc_of h5 rfl) (n_four h5 h83 rfl (by omega)) (fun r g2 hr => ?_)
    obtain ⟨rfl, S2, h5, h83⟩ := hr
    refine sw_aload_n dX9_feed_30 rfl ?_
    refine sw_iload_n dX9_feed_31 rfl ?_
    refine sw_cv1 dX9_feed_32 cv_X9_151 (rc_of h5 rfl) (n_four h5 h83 rfl (by omega)) (fun r g3 hr => ?_)
    obtain ⟨rfl, S3, h5, h83⟩ := hr
    refine sw_aload_n dX9_feed_35 rfl ?_
    refine sw_iload dX9_feed_36 rfl ?_
    refine sw_cv1 dX9_feed_38 cv_X9_151 (rc_of h5 rfl) (n_four h5 h83 rfl (by omega)) (fun r g4 hr => ?_)
    obtain ⟨rfl, S4, h5, h83⟩ := hr
    refine sw_aload_n dX9_feed_41 rfl ?_
    refine sw_iload dX9_feed_42 rfl ?_
    refine sw_cv1 dX9_feed_44 cv_X9_151 (rc_of h5 rfl) (n_four h5 h83 rfl (by omega)) (fun r g5 hr => ?_)
    obtain ⟨rfl, S5, h5, h83⟩ := hr
    have oo : ∀ j, j ≠ 75 → j ≠ 83 → g5[j]? = g0[j]? := fun j x y => (S5.2 j x y).trans ((S4.2 j x y).trans ((S3.2 j x y).trans ((S2.2 j x y).trans (S1.2 j x y))))
    have zz : g5.length = g0.length := S5.1.trans (S4.1.trans (S3.1.trans (S2.1.trans S1.1)))
    obtain ⟨t7, h77⟩ := h77
    have htp0 : tOk tp s.2.1 s.2.2.1 := htp
    have H1 : RB g5 ((0 : Int32), nI (s.2.2.1 + 4 + 4 + 4 + 4 + 4), v.2.2) f (addT (addT (addT (addT (addT tp s.2.2.1 a) (s.2.2.1 + 4) b) (s.2.2.1 + 4 + 4) c) (s.2.2.1 + 4 + 4 + 4) dd) (s.2.2.1 + 4 + 4 + 4 + 4) e) (s.1, addT (addT (addT (addT (addT s.2.1 s.2.2.1 a) (s.2.2.1 + 4) b) (s.2.2.1 + 8) c) (s.2.2.1 + 12) dd) (s.2.2.1 + 16) e, s.2.2.1 + 20, s.2.2.2) T := ⟨⟨h5, (oo 76 (by omega) (by omega)).trans h6, ⟨t7, (oo 77 (by omega) (by omega)).trans h77⟩, hS.kept (fun j x y => oo j (by omega) (by omega)), h83⟩, hR, hC, ⟨rfl, ef⟩, by show s.2.2.1 + 20 ≤ 400; omega, htp0.add.add.add.add.add⟩
    refine sw_aload_n dX9_feed_47 rfl ?_
    refine sw_getf dX9_feed_48 fl_X9_148 (h5) rfl ?_
    exact sw_ireturn dX9_feed_51 rfl rfl (⟨rfl, H1.M, D0.tr ⟨zz, fun j hj => oo j (by omega) (by omega)⟩⟩)
  · have hc : ¬ nI s.2.2.1 + nI 20 ≤ nI 400 := hc
    rw [nI_add, nI_leI (by omega) (by omega)] at hc
    have hf : c_feed s a b c dd e = (-1, s) := by unfold c_feed; rw [if_pos (by omega)]
    rw [hf]
    refine sw_iconst (v := (-1)) dX9_feed_18 (by decide) ?_
    exact sw_ireturn dX9_feed_19 rfl rfl (⟨rfl, H.M, D0⟩)
theorem n_end {G : SG} {d T : Nat} {h : AH} {s : CS} {x : Int32} (hM : RM h s T) : SW G mX9_end (d + 11) 0 0 0 [.ref 75, .int x] [] h (fun r h' => r = some (.int (c_end s x).1) ∧ RM h' (c_end s x).2 T ∧ SameD h h') := by
  obtain ⟨v, f, tp, H⟩ := hM
  have h5 := H.1.1
  refine sw_aload_n dX9_end_0 rfl ?_
  refine sw_iconst (v := 0) dX9_end_1 (by decide) ?_
  refine sw_puti dX9_end_2 fl_X9_35 (h5) (Nat.le_of_ble_eq_true rfl) (fun g0 z0 e0 o0 => ?_)
  obtain ⟨H, D0⟩ := H.ra e0 z0 o0
  obtain ⟨⟨h5, h6, ⟨t7, h77⟩, hS, h83⟩, hR, hC, ⟨ev, ef⟩, hn, htp⟩ := id H
  have ev : v.2.1 = nI s.2.2.1 := ev
  unfold c_end
  refine sw_iload_n dX9_end_5 rfl ?_
  refine sw_iconst (v := 0) dX9_end_6 (by decide) ?_
  refine sw_aload_n dX9_end_7 rfl ?_
  refine sw_getf dX9_end_8 fl_X9_148 (h5) rfl ?_
  show SW G mX9_end (d + 11) 0 0 11 _ [.int v.2.1, .int 0, .int x] _ _
  rw [ev]
  refine sw_pcs3 dX9_end_11 cs_X9_39 (n_in) ?_
  refine sw_ifne (tgt := 19) dX9_end_14 (by decide) (fun h1 => ?_) (fun h1 => ?_)
  · have h1 := bz_eq1.mp h1
    rw [if_neg (nI_not0 h1.1), if_pos h1.2]
    obtain ⟨j, hj, rfl⟩ := nI_of (nI_not0 h1.1)
    have h2 := h1.2
    rw [nI_leI hj (by omega)] at h2
    refine sw_aload_n dX9_end_19 rfl ?_
    refine sw_iload_n dX9_end_20 rfl ?_
    refine sw_puti dX9_end_21 fl_X9_148 (h5) (Nat.le_of_ble_eq_true rfl) (fun g1 z1 e1 o1 => ?_)
    have e1 : MoAt g1 ((0 : Int32), nI j, v.2.2) := e1
    have H1 : RB g1 ((0 : Int32), nI j, v.2.2) f tp (s.1, s.2.1, j, s.2.2.2) T := ⟨⟨e1, (o1 76 (by omega)).trans h6, ⟨t7, (o1 77 (by omega)).trans h77⟩, hS.kept (fun j x y => o1 j (by omega)), (o1 83 (by omega)).trans h83⟩, hR, hC, ⟨rfl, ef⟩, by show j ≤ 400; omega, fun i hi => htp i (by have hi : i < j := hi; omega)⟩
    refine sw_iconst (v := 1) dX9_end_24 (by decide) ?_
    exact sw_ireturn dX9_end_25 rfl rfl (⟨rfl, by rw [nI_clamp hj]; exact H1.M, D0.tr ⟨z1, fun j hj => o1 j (by omega)⟩⟩)
  · have h1 := bz_eq0.mp h1
    have hf : (if x < 0 then ((0 : Int32), s) else if x ≤ nI s.2.2.1 then (1, (s.1, s.2.1, x.toNatClampNeg, s.2.2.2)) else (0, s)) = (0, s) := by
      by_cases q : x < 0
      · rw [if_pos q]
      · rw [if_neg q, if_neg (fun z => h1 ⟨i_nlt q, z⟩)]
    rw [hf]
    refine sw_iconst (v := 0) dX9_end_17 (by decide) ?_
    exact sw_ireturn dX9_end_18 rfl rfl (⟨rfl, H.M, D0⟩)
theorem n_flow {G : SG} {d T : Nat} {h : AH} {s : CS} {x : Int32} (hM : RM h s T) : SW G mX9_flow (d + 11) 0 0 0 [.ref 75, .int x] [] h (fun r h' => r = some (.int (c_flow s x)) ∧ RM h' s T ∧ SameD h h') := by
  obtain ⟨v, f, tp, H⟩ := hM
  have h5 := H.1.1
  refine sw_aload_n dX9_flow_0 rfl ?_
  refine sw_iconst (v := 0) dX9_flow_1 (by decide) ?_
  refine sw_puti dX9_flow_2 fl_X9_35 (h5) (Nat.le_of_ble_eq_true rfl) (fun g0 z0 e0 o0 => ?_)
  obtain ⟨H, D0⟩ := H.ra e0 z0 o0
  obtain ⟨⟨h5, h6, h77, hS, h83⟩, hR, ⟨t, a, r, htT, hC⟩, ⟨ev, ef⟩, hn, htp⟩ := id H
  have hp := szN_rg _ hC.1
  unfold c_flow
  refine sw_iload_n dX9_flow_5 rfl ?_
  refine sw_pcs1 dX9_flow_6 cs_X9_142 (n_isFlow) ?_
  refine sw_ifeq (tgt := 20) dX9_flow_9 (by decide) (fun h1 => ?_) (fun h1 => ?_)
  · rw [if_neg (bz_eq0.mp h1)]
    refine sw_iconst (v := (-1)) dX9_flow_20 (by decide) ?_
    exact sw_ireturn dX9_flow_21 rfl rfl (⟨rfl, H.M, D0⟩)
  · rw [if_pos (bz_eq1.mp h1), slfI_N (by omega) (by omega)]
    refine sw_aload_n dX9_flow_12 rfl ?_
    refine sw_iload_n dX9_flow_13 rfl ?_
    refine sw_pcv1 dX9_flow_14 cv_X9_97 (rc_of h5 rfl) (n_slotOf h5 h6 hR.1.1 (by omega) (by omega)) ?_
    refine sw_goto (tgt := 21) dX9_flow_17 (by decide) ?_
    exact sw_ireturn dX9_flow_21 rfl rfl (⟨rfl, H.M, D0⟩)
theorem n_slot {G : SG} {d T : Nat} {h : AH} {s : CS} {b j : Int32} (hM : RM h s T) : SW G mX9_slot (d + 11) 0 0 0 [.ref 75, .int b, .int j] [] h (fun r h' => r = some (.int (c_slot s b j)) ∧ RM h' s T ∧ SameD h h') := by
  obtain ⟨v, f, tp, H⟩ := hM
  have h5 := H.1.1
  refine sw_aload_n dX9_slot_0 rfl ?_
  refine sw_iconst (v := 0) dX9_slot_1 (by decide) ?_
  refine sw_puti dX9_slot_2 fl_X9_35 (h5) (Nat.le_of_ble_eq_true rfl) (fun g0 z0 e0 o0 => ?_)
  obtain ⟨H, D0⟩ := H.ra e0 z0 o0
  obtain ⟨⟨h5, h6, h77, hS, h83⟩, hR, ⟨t, a, r, htT, hC⟩, ⟨ev, ef⟩, hn, htp⟩ := id H
  have hp := szN_rg _ hC.1
  have hn8 := hC.2.1
  unfold c_slot
  refine sw_aload_n dX9_slot_5 rfl ?_
  refine sw_iload_n dX9_slot_6 rfl ?_
  refine sw_pcv1 dX9_slot_7 cv_X9_122 (rc_of h5 rfl) (n_isBack h5 h6 hR.1.2.1 (by omega)) ?_
  refine sw_ifeq (tgt := 56) dX9_slot_10 (by decide) (fun h1 => ?_) (fun h1 => ?_)
  · rw [if_neg (fun q => bz_eq0.mp h1 q.1)]
    refine sw_iconst (v := (-1)) dX9_slot_56 (by decide) ?_
    exact sw_ireturn dX9_slot_57 rfl rfl (⟨rfl, H.M, D0⟩)
  · have h1 := bz_eq1.mp h1
    refine sw_aload_n dX9_slot_13 rfl ?_
    refine sw_iload_n dX9_slot_14 rfl ?_
    refine sw_pcv1 dX9_slot_15 cv_X9_255 (rc_of h5 rfl) (n_isSlot h5 h6 hR.1.1 (by omega)) ?_
    refine sw_ifeq (tgt := 56) dX9_slot_18 (by decide) (fun h2 => ?_) (fun h2 => ?_)
    · rw [if_neg (fun q => bz_eq0.mp h2 q.2)]
      refine sw_iconst (v := (-1)) dX9_slot_56 (by decide) ?_
      exact sw_ireturn dX9_slot_57 rfl rfl (⟨rfl, H.M, D0⟩)
    · have h2 := bz_eq1.mp h2
      rw [if_pos ⟨h1, h2⟩]
      obtain ⟨i, hi, rfl⟩ := ba_of (by omega) h1
      rw [nI_clamp (by omega), offI_N (by omega) (by omega), skpI_N (by omega) (by omega), ← (hR.2.1 i (by omega)).1]
      unfold remI
      rw [if_neg (nI_nle (by omega) (by omega))]
      refine sw_aload_n dX9_slot_21 rfl ?_
      refine sw_iload_n dX9_slot_22 rfl ?_
      refine sw_aload_n dX9_slot_23 rfl ?_
      refine sw_getf dX9_slot_24 fl_X9_7 (h5) rfl ?_
      refine sw_iconst (v := 0) dX9_slot_27 (by decide) ?_
      refine sw_iald dX9_slot_28 (h6) (vp_in_nI (n := 0) (by omega) (by omega)) (hR.1.1) ?_
      refine sw_pcv2 dX9_slot_29 cv_X9_53 (rc_of h5 rfl) (n_offset (b := i) (p := s.1.p) h5 h6 (by omega) (by omega) (by omega)) ?_
      refine sw_iload_n dX9_slot_32 rfl ?_
      refine sw_aload_n dX9_slot_33 rfl ?_
      refine sw_iload_n dX9_slot_34 rfl ?_
      refine sw_aload_n dX9_slot_35 rfl ?_
      refine sw_getf dX9_slot_36 fl_X9_7 (h5) rfl ?_
      refine sw_iconst (v := 0) dX9_slot_39 (by decide) ?_
      refine sw_iald dX9_slot_40 (h6) (vp_in_nI (n := 0) (by omega) (by omega)) (hR.1.1) ?_
      refine sw_pcv2 dX9_slot_41 cv_X9_56 (rc_of h5 rfl) (n_skip (b := i) (p := s.1.p) h5 h6 (by omega) (by omega) (by omega)) ?_
      refine sw_imul dX9_slot_44 ?_
      refine sw_iadd dX9_slot_45 ?_
      refine sw_aload_n dX9_slot_46 rfl ?_
      refine sw_getf dX9_slot_47 fl_X9_7 (h5) rfl ?_
      refine sw_iconst (v := 0) dX9_slot_50 (by decide) ?_
      refine sw_iald dX9_slot_51 (h6) (vp_in_nI (n := 0) (by omega) (by omega)) (hR.1.1) ?_
      refine sw_irem dX9_slot_52 (nI_ne0 (by omega) (by omega)) ?_
      refine sw_goto (tgt := 57) dX9_slot_53 (by decide) ?_
      exact sw_ireturn dX9_slot_57 rfl rfl (⟨rfl, H.M, D0⟩)
theorem n_table {G : SG} {d T : Nat} {h : AH} {s : CS} {g j : Int32} (hM : RM h s T) : SW G mX9_table (d + 11) 0 0 0 [.ref 75, .int g, .int j] [] h (fun r h' => r = some (.int (c_table s g j)) ∧ RM h' s T ∧ SameD h h') := by
  obtain ⟨v, f, tp, H⟩ := hM
  have h5 := H.1.1
  refine sw_aload_n dX9_table_0 rfl ?_
  refine sw_iconst (v := 0) dX9_table_1 (by decide) ?_
  refine sw_puti dX9_table_2 fl_X9_35 (h5) (Nat.le_of_ble_eq_true rfl) (fun g0 z0 e0 o0 => ?_)
  obtain ⟨H, D0⟩ := H.ra e0 z0 o0
  obtain ⟨⟨h5, h6, h77, hS, h83⟩, hR, ⟨t, a, r, htT, hC⟩, ⟨ev, ef⟩, hn, htp⟩ := id H
  have hp := szN_rg _ hC.1
  unfold c_table
  refine sw_iload_n dX9_table_5 rfl ?_
  refine sw_pcs1 dX9_table_6 cs_X9_125 (n_isGate) ?_
  refine sw_ifeq (tgt := 20) dX9_table_9 (by decide) (fun h1 => ?_) (fun h1 => ?_)
  · rw [if_neg (fun q => bz_eq0.mp h1 q.1)]
    refine sw_iconst (v := (-1)) dX9_table_20 (by decide) ?_
    exact sw_ireturn dX9_table_21 rfl rfl (⟨rfl, H.M, D0⟩)
  · have h1 := bz_eq1.mp h1
    refine sw_aload_n dX9_table_12 rfl ?_
    refine sw_iload_n dX9_table_13 rfl ?_
    refine sw_pcv1 dX9_table_14 cv_X9_255 (rc_of h5 rfl) (n_isSlot h5 h6 hR.1.1 (by omega)) ?_
    refine sw_ifne (tgt := 22) dX9_table_17 (by decide) (fun h2 => ?_) (fun h2 => ?_)
    · have h2 := bz_eq1.mp h2
      rw [if_pos ⟨h1, h2⟩]
      obtain ⟨gi, hgi, rfl⟩ := ga_of h1
      obtain ⟨i, hi, rfl⟩ := ba_of (by omega) h2
      rw [nI_clamp (by omega), nI_clamp (by omega)]
      refine sw_aload_n dX9_table_22 rfl ?_
      refine sw_iload_n dX9_table_23 rfl ?_
      refine sw_cv1 dX9_table_24 cv_X9_94 (rc_of h5 rfl) (n_laysGate (g := gi) h5 h6 hS hR hC hgi) (fun rr g1 hr => ?_)
      obtain ⟨rfl, hZ, hS1, hU1, ⟨t', h8, ht⟩, -⟩ := hr
      obtain ⟨H1, D1⟩ := H.z hZ hS1
      have h5 := H1.1.1
      refine sw_aload_n dX9_table_27 rfl ?_
      refine sw_getf dX9_table_28 fl_X9_16 (h5) rfl ?_
      refine sw_iload_n dX9_table_31 rfl ?_
      refine sw_iald dX9_table_32 (h8) (vp_in_nI (by omega) (by omega)) (nIat (by omega) (ht i hi)) ?_
      exact sw_ireturn dX9_table_33 rfl rfl (⟨rfl, H1.M, D0.tr D1⟩)
    · rw [if_neg (fun q => bz_eq0.mp h2 q.2)]
      refine sw_iconst (v := (-1)) dX9_table_20 (by decide) ?_
      exact sw_ireturn dX9_table_21 rfl rfl (⟨rfl, H.M, D0⟩)
theorem n_sharedBy {G : SG} {d p : Nat} {h : AH} {v : MV} {t : Nat → Int32} {b : Int32} (h5 : MoAt h v) (hL : LaidAt h p t) (hp : p ≤ 97) : SW G mX9_sharedBy d 0 0 0 [.ref 75, .int b, .int (nI p), .retAddr 0, .retAddr 0] [] h (fun r h' => r = some (.int (nI (cntS t b p))) ∧ h' = h) := by
  obtain ⟨t', h8, ht⟩ := hL
  have loop : ∀ (c i : Nat), i + c = p → SW G mX9_sharedBy d 0 0 5 [.ref 75, .int b, .int (nI p), .int (nI (cntS t b i)), .int (nI i)] [] h (fun r h' => r = some (.int (nI (cntS t b p))) ∧ h' = h) := by
    intro c
    induction c with
    | zero =>
      intro i hi
      have : i = p := by omega
      subst this
      refine sw_iload dX9_sharedBy_5 rfl ?_
      refine sw_iload_n dX9_sharedBy_7 rfl ?_
      refine sw_cmpge (tgt := 36) dX9_sharedBy_8 (by decide) (fun hc => ?_) (fun hc => ?_)
      · refine sw_iload_n dX9_sharedBy_36 rfl ?_
        exact sw_ireturn dX9_sharedBy_37 rfl rfl (⟨rfl, rfl⟩)
      · exact absurd (nI_le (Nat.le_refl _) (by omega)) hc
    | succ c ih =>
      intro i hi
      have step : ∀ x : Nat, cntS t b (i + 1) = cntS t b i + x → SW G mX9_sharedBy d 0 0 28 [.ref 75, .int b, .int (nI p), .int (nI (cntS t b i)), .int (nI i)] [.int (nI x), .int (nI (cntS t b i))] h (fun r h' => r = some (.int (nI (cntS t b p))) ∧ h' = h) := by
        intro x hx
        refine sw_iadd dX9_sharedBy_28 ?_
        rw [nI_add, ← hx]
        refine sw_istore_n dX9_sharedBy_29 (by decide) rfl ?_
        refine sw_iinc (v := nI (i + 1)) dX9_sharedBy_30 rfl (nI_1 i) (by decide) rfl ?_
        refine sw_goto (tgt := 5) dX9_sharedBy_33 (by decide) ?_
        exact ih (i + 1) (by omega)
      refine sw_iload dX9_sharedBy_5 rfl ?_
      refine sw_iload_n dX9_sharedBy_7 rfl ?_
      refine sw_cmpge (tgt := 36) dX9_sharedBy_8 (by decide) (fun hc => ?_) (fun hc => ?_)
      · exact absurd hc (nI_ge (by omega) (by omega))
      · refine sw_iload_n dX9_sharedBy_11 rfl ?_
        refine sw_aload_n dX9_sharedBy_12 rfl ?_
        refine sw_getf dX9_sharedBy_13 fl_X9_16 (h5) rfl ?_
        refine sw_iload dX9_sharedBy_16 rfl ?_
        refine sw_iald dX9_sharedBy_18 (h8) (vp_in_nI (by omega) (by omega)) (nIat (by omega) (ht i (by omega))) ?_
        refine sw_iload_n dX9_sharedBy_19 rfl ?_
        refine sw_cmpne (tgt := 27) dX9_sharedBy_20 (by decide) (fun hq => ?_) (fun hq => ?_)
        · refine sw_iconst (v := 0) dX9_sharedBy_27 (by decide) ?_
          exact step 0 (by rw [cntS, if_neg hq])
        · refine sw_iconst (v := 1) dX9_sharedBy_23 (by decide) ?_
          refine sw_goto (tgt := 28) dX9_sharedBy_24 (by decide) ?_
          exact step 1 (by rw [cntS, if_pos hq])
  refine sw_iconst (v := 0) dX9_sharedBy_0 (by decide) ?_
  refine sw_istore_n dX9_sharedBy_1 (by decide) rfl ?_
  refine sw_iconst (v := 0) dX9_sharedBy_2 (by decide) ?_
  refine sw_istore dX9_sharedBy_3 (by decide) rfl ?_
  exact loop p 0 (by omega)
theorem n_share {G : SG} {d T : Nat} {h : AH} {s : CS} {g j : Int32} (hM : RM h s T) : SW G mX9_share (d + 11) 0 0 0 [.ref 75, .int g, .int j] [] h (fun r h' => r = some (.int (c_share s g j)) ∧ RM h' s T ∧ SameD h h') := by
  obtain ⟨v, f, tp, H⟩ := hM
  have h5 := H.1.1
  refine sw_aload_n dX9_share_0 rfl ?_
  refine sw_iconst (v := 0) dX9_share_1 (by decide) ?_
  refine sw_puti dX9_share_2 fl_X9_35 (h5) (Nat.le_of_ble_eq_true rfl) (fun g0 z0 e0 o0 => ?_)
  obtain ⟨H, D0⟩ := H.ra e0 z0 o0
  obtain ⟨⟨h5, h6, h77, hS, h83⟩, hR, ⟨t, a, r, htT, hC⟩, ⟨ev, ef⟩, hn, htp⟩ := id H
  have hp := szN_rg _ hC.1
  have hn8 := hC.2.1
  unfold c_share
  refine sw_iload_n dX9_share_5 rfl ?_
  refine sw_pcs1 dX9_share_6 cs_X9_125 (n_isGate) ?_
  refine sw_ifeq (tgt := 20) dX9_share_9 (by decide) (fun h1 => ?_) (fun h1 => ?_)
  · rw [if_neg (fun q => bz_eq0.mp h1 q.1)]
    refine sw_iconst (v := (-1)) dX9_share_20 (by decide) ?_
    exact sw_ireturn dX9_share_21 rfl rfl (⟨rfl, H.M, D0⟩)
  · have h1 := bz_eq1.mp h1
    refine sw_aload_n dX9_share_12 rfl ?_
    refine sw_iload_n dX9_share_13 rfl ?_
    refine sw_pcv1 dX9_share_14 cv_X9_122 (rc_of h5 rfl) (n_isBack h5 h6 hR.1.2.1 (by omega)) ?_
    refine sw_ifne (tgt := 22) dX9_share_17 (by decide) (fun h2 => ?_) (fun h2 => ?_)
    · have h2 := bz_eq1.mp h2
      rw [if_pos ⟨h1, h2⟩]
      obtain ⟨gi, hgi, rfl⟩ := ga_of h1
      rw [nI_clamp (by omega)]
      refine sw_aload_n dX9_share_22 rfl ?_
      refine sw_iload_n dX9_share_23 rfl ?_
      refine sw_cv1 dX9_share_24 cv_X9_94 (rc_of h5 rfl) (n_laysGate (g := gi) h5 h6 hS hR hC hgi) (fun rr g1 hr => ?_)
      obtain ⟨rfl, hZ, hS1, hU1, hL1, -⟩ := hr
      obtain ⟨H1, D1⟩ := H.z hZ hS1
      have h5 := H1.1.1
      have h6 := H1.1.2.1
      refine sw_aload_n dX9_share_27 rfl ?_
      refine sw_iload_n dX9_share_28 rfl ?_
      refine sw_aload_n dX9_share_29 rfl ?_
      refine sw_getf dX9_share_30 fl_X9_7 (h5) rfl ?_
      refine sw_iconst (v := 0) dX9_share_33 (by decide) ?_
      refine sw_iald dX9_share_34 (h6) (vp_in_nI (n := 0) (by omega) (by omega)) (hR.1.1) ?_
      refine sw_pcv2 dX9_share_35 cv_X9_258 (rc_of h5 rfl) (n_sharedBy h5 hL1 (by omega)) ?_
      exact sw_ireturn dX9_share_38 rfl rfl (⟨rfl, H1.M, D0.tr D1⟩)
    · rw [if_neg (fun q => bz_eq0.mp h2 q.2)]
      refine sw_iconst (v := (-1)) dX9_share_20 (by decide) ?_
      exact sw_ireturn dX9_share_21 rfl rfl (⟨rfl, H.M, D0⟩)
theorem btN_all : (szN.all fun p => (List.range (p + 1)).all fun k => decide (Op.cmpValue (FP.fcmp (btT k p) (btT k p)) .l = 0)) = true := by decide +kernel
theorem btN_at {k p : Nat} (hp : p ∈ szN) (hk : k ≤ p) : Op.cmpValue (FP.fcmp (btT k p) (btT k p)) .l = 0 := of_decide_eq_true (List.all_eq_true.mp (List.all_eq_true.mp btN_all p hp) k (List.mem_range.mpr (by omega)))
theorem n_isNaN {G : SG} {d : Nat} {h : AH} {x : UInt32} (hx : Op.cmpValue (FP.fcmp x x) .l = 0) : SW G mJxf58ca_isNaN_12338 d 0 0 0 [.float x] [] h (fun r h' => r = some (.int 0) ∧ h' = h) := by
  refine sw_fload_n dJxf58ca_isNaN_12338_0 rfl ?_
  refine sw_fload_n dJxf58ca_isNaN_12338_1 rfl ?_
  refine sw_fcmp dJxf58ca_isNaN_12338_2 ?_
  refine sw_ifeq (tgt := 10) dJxf58ca_isNaN_12338_3 (by decide) (fun hc => ?_) (fun hc => ?_)
  · refine sw_iconst (v := 0) dJxf58ca_isNaN_12338_10 (by decide) ?_
    exact sw_ireturn dJxf58ca_isNaN_12338_11 rfl rfl (⟨rfl, rfl⟩)
  · exact absurd hx hc
theorem n_bits {G : SG} {d : Nat} {h : AH} {x : UInt32} (hx : Op.cmpValue (FP.fcmp x x) .l = 0) : SW G mJxf58ca_floatToIntBits_5c35a (d + 1) 0 0 0 [.float x] [] h (fun r h' => r = some (.int x.toInt32) ∧ h' = h) := by
  refine sw_fload_n dJxf58ca_floatToIntBits_5c35a_0 rfl ?_
  refine sw_pcs1 dJxf58ca_floatToIntBits_5c35a_1 cs_Jxf58ca_59 (n_isNaN hx) ?_
  refine sw_ifne (tgt := 12) dJxf58ca_floatToIntBits_5c35a_4 (by decide) (fun hc => ?_) (fun hc => ?_)
  · exact absurd rfl hc
  · refine sw_fload_n dJxf58ca_floatToIntBits_5c35a_7 rfl ?_
    refine sw_rawbits dJxf58ca_floatToIntBits_5c35a_8 w_1103 ?_
    exact sw_ireturn dJxf58ca_floatToIntBits_5c35a_11 rfl rfl (⟨rfl, rfl⟩)
theorem n_shareBits {G : SG} {d T : Nat} {h : AH} {s : CS} {g j : Int32} (hM : RM h s T) : SW G mX9_shareBits (d + 11) 0 0 0 [.ref 75, .int g, .int j, .retAddr 0] [] h (fun r h' => r = some (.int (c_bits s g j)) ∧ RM h' s T ∧ SameD h h') := by
  obtain ⟨v, f, tp, H⟩ := hM
  have h5 := H.1.1
  refine sw_aload_n dX9_shareBits_0 rfl ?_
  refine sw_iconst (v := 0) dX9_shareBits_1 (by decide) ?_
  refine sw_puti dX9_shareBits_2 fl_X9_35 (h5) (Nat.le_of_ble_eq_true rfl) (fun g0 z0 e0 o0 => ?_)
  obtain ⟨H, D0⟩ := H.ra e0 z0 o0
  obtain ⟨⟨h5, h6, h77, hS, h83⟩, hR, ⟨t, a, r, htT, hC⟩, ⟨ev, ef⟩, hn, htp⟩ := id H
  have hp := szN_rg _ hC.1
  have hn8 := hC.2.1
  unfold c_bits
  refine sw_iload_n dX9_shareBits_5 rfl ?_
  refine sw_pcs1 dX9_shareBits_6 cs_X9_125 (n_isGate) ?_
  refine sw_ifeq (tgt := 20) dX9_shareBits_9 (by decide) (fun h1 => ?_) (fun h1 => ?_)
  · rw [if_neg (fun q => bz_eq0.mp h1 q.1)]
    refine sw_iconst (v := (-1)) dX9_shareBits_20 (by decide) ?_
    exact sw_ireturn dX9_shareBits_21 rfl rfl (⟨rfl, H.M, D0⟩)
  · have h1 := bz_eq1.mp h1
    refine sw_aload_n dX9_shareBits_12 rfl ?_
    refine sw_iload_n dX9_shareBits_13 rfl ?_
    refine sw_pcv1 dX9_shareBits_14 cv_X9_122 (rc_of h5 rfl) (n_isBack h5 h6 hR.1.2.1 (by omega)) ?_
    refine sw_ifne (tgt := 22) dX9_shareBits_17 (by decide) (fun h2 => ?_) (fun h2 => ?_)
    · have h2 := bz_eq1.mp h2
      rw [if_pos ⟨h1, h2⟩]
      obtain ⟨gi, hgi, rfl⟩ := ga_of h1
      rw [nI_clamp (by omega)]
      refine sw_aload_n dX9_shareBits_22 rfl ?_
      refine sw_iload_n dX9_shareBits_23 rfl ?_
      refine sw_cv1 dX9_shareBits_24 cv_X9_94 (rc_of h5 rfl) (n_laysGate (g := gi) h5 h6 hS hR hC hgi) (fun rr g1 hr => ?_)
      obtain ⟨rfl, hZ, hS1, hU1, hL1, -⟩ := hr
      obtain ⟨H1, D1⟩ := H.z hZ hS1
      have h5 := H1.1.1
      have h6 := H1.1.2.1
      have hle := cntS_le (wT s.1 (wU s.1 gi)) j s.1.p
      obtain ⟨q1, q2, q3⟩ := btC_at hC.1 hle
      have q4 := btN_at hC.1 hle
      refine sw_aload_n dX9_shareBits_27 rfl ?_
      refine sw_iload_n dX9_shareBits_28 rfl ?_
      refine sw_aload_n dX9_shareBits_29 rfl ?_
      refine sw_getf dX9_shareBits_30 fl_X9_7 (h5) rfl ?_
      refine sw_iconst (v := 0) dX9_shareBits_33 (by decide) ?_
      refine sw_iald dX9_shareBits_34 (h6) (vp_in_nI (n := 0) (by omega) (by omega)) (hR.1.1) ?_
      refine sw_pcv2 dX9_shareBits_35 cv_X9_258 (rc_of h5 rfl) (n_sharedBy h5 hL1 (by omega)) ?_
      refine sw_i2f dX9_shareBits_38 ?_
      refine sw_aload_n dX9_shareBits_39 rfl ?_
      refine sw_getf dX9_shareBits_40 fl_X9_7 (h5) rfl ?_
      refine sw_iconst (v := 0) dX9_shareBits_43 (by decide) ?_
      refine sw_iald dX9_shareBits_44 (h6) (vp_in_nI (n := 0) (by omega) (by omega)) (hR.1.1) ?_
      refine sw_i2f dX9_shareBits_45 ?_
      refine sw_fdiv dX9_shareBits_46 (q1) ?_
      refine sw_fstore_n dX9_shareBits_47 (by decide) rfl ?_
      refine sw_fload_n dX9_shareBits_48 rfl ?_
      refine sw_pcs1 dX9_shareBits_49 cs_X9_261 (n_bits q4) ?_
      exact sw_ireturn dX9_shareBits_52 rfl rfl (⟨rfl, H1.M, D0.tr D1⟩)
    · rw [if_neg (fun q => bz_eq0.mp h2 q.2)]
      refine sw_iconst (v := (-1)) dX9_shareBits_20 (by decide) ?_
      exact sw_ireturn dX9_shareBits_21 rfl rfl (⟨rfl, H.M, D0⟩)
