/-! the tables of the class -/
theorem pos_nI {x : Int32} (h : x.toBitVec.toNat < 2 ^ 31) : x = nI x.toBitVec.toNat := by
  apply Int32.toBitVec_inj.mp
  show x.toBitVec = BitVec.ofNat 32 x.toBitVec.toNat
  rw [BitVec.ofNat_toNat, BitVec.setWidth_eq]
def mixN (v a : Int32) : Nat := (mixI v a).toBitVec.toNat
theorem mixN_lt (v a : Int32) : mixN v a < 2 ^ 31 := by
  unfold mixN mixI ushr
  have h := pk_ushr (let x1 := v * a; let x2 := x1 ^^^ ushr x1 15; let x3 := x2 * (-2048144789); x3 ^^^ ushr x3 13) 1 1 (by decide)
  have h2 := (let x1 := v * a; let x2 := x1 ^^^ ushr x1 15; let x3 := x2 * (-2048144789); x3 ^^^ ushr x3 13 : Int32).toBitVec.isLt
  unfold ushr at h h2
  rw [h]
  omega
theorem mix_nI (v a : Int32) : mixI v a = nI (mixN v a) := pos_nI (mixN_lt v a)
theorem remN {a z : Nat} (ha : a < 2 ^ 31) (h0 : 0 < z) (hz : z < 2 ^ 31) : remI (nI a) (nI z) = nI (a % z) := by
  unfold remI
  rw [if_neg (nI_nle h0 hz)]
  exact pk_rem ha h0 hz
def offN (k : Int32) (p : Nat) : Nat := mixN k (-1640531535) % p
def skpN (k : Int32) (p : Nat) : Nat := mixN k (-2048144777) % (p - 1) + 1
def slfN (k : Int32) (p : Nat) : Nat := mixN k 668265263 % p
theorem offI_N {k : Int32} {p : Nat} (h : 0 < p) (hp : p < 2 ^ 31) : offI k (nI p) = nI (offN k p) := by
  unfold offI offN
  rw [mix_nI, remN (mixN_lt _ _) h hp]
theorem slfI_N {k : Int32} {p : Nat} (h : 0 < p) (hp : p < 2 ^ 31) : slfI k (nI p) = nI (slfN k p) := by
  unfold slfI slfN
  rw [mix_nI, remN (mixN_lt _ _) h hp]
theorem skpI_N {k : Int32} {p : Nat} (h : 1 < p) (hp : p < 2 ^ 31) : skpI k (nI p) = nI (skpN k p) := by
  unfold skpI skpN
  rw [mix_nI, nI_p (by omega), remN (mixN_lt _ _) (by omega) (by omega), nI_1]
theorem offN_lt {k : Int32} {p : Nat} (h : 0 < p) : offN k p < p := Nat.mod_lt _ h
theorem slfN_lt {k : Int32} {p : Nat} (h : 0 < p) : slfN k p < p := Nat.mod_lt _ h
theorem skpN_lt {k : Int32} {p : Nat} (h : 1 < p) : skpN k p < p := by
  have := Nat.mod_lt (mixN k (-2048144777)) (show 0 < p - 1 by omega)
  unfold skpN; omega
theorem skpN_pos {k : Int32} {p : Nat} : 0 < skpN k p := by unfold skpN; omega
/-- the first free slot from q on, by the skip s -/
def prb (t : Nat → Int32) (s p : Nat) : Nat → Nat → Nat
  | 0, q => q
  | c + 1, q => if t q = -1 then q else prb t s p c ((q + s) % p)
theorem prb_lt {t : Nat → Int32} {s p : Nat} (hp : 0 < p) : ∀ (c q : Nat), q < p → prb t s p c q < p := by
  intro c
  induction c with
  | zero => intro q h; exact h
  | succ c ih =>
    intro q h
    unfold prb
    split
    · exact h
    · exact ih _ (Nat.mod_lt _ hp)
def TabO (h : AH) : Prop := h[3]? = some (.inr (2, [.ref 4, .ref 5, .ref 6, .ref 7, .ref 8]))
theorem m_take_l {G : SG} {d o b p q0 s : Nat} {h : AH} {t pl sk : Nat → Int32} {P : Option Value → AH → Prop} (hT : TabO h) (ho : h[o]? = some (.inl (0, 97, .inl t))) (h6 : h[6]? = some (.inl (0, 8, .inl pl))) (h7 : h[7]? = some (.inl (0, 8, .inl sk))) (ho3 : o ≠ 3 ∧ o ≠ 6 ∧ o ≠ 7) (hb : b < 8) (hs : sk b = nI s) (hsp : s < p) (hp : p ≤ 97)
    (hP : ∀ h' : AH, h'.length = h.length → h'[o]? = some (.inl (0, 97, .inl (upd t (prb t s p p q0) (nI b)))) → h'[6]? = some (.inl (0, 8, .inl (upd pl b (nI (prb t s p p q0))))) → (∀ j, j ≠ o → j ≠ 6 → h'[j]? = h[j]?) → P none h') : ∀ (c i q : Nat), i + c = p → q < p → prb t s p c q = prb t s p p q0 → SW G mX3_take (d + 1) 0 0 11 [.ref 3, .ref o, .int (nI b), .int (nI p), .int (nI q), .int (nI i)] [] h P := by
  have fin : ∀ (i q : Nat), q < p → q = prb t s p p q0 → SW G mX3_take (d + 1) 0 0 46 [.ref 3, .ref o, .int (nI b), .int (nI p), .int (nI q), .int (nI i)] [] h P := by
    intro i q hq he
    subst he
    refine sw_aload_n dX3_take_46 rfl ?_
    refine sw_iload dX3_take_47 rfl ?_
    refine sw_iload_n dX3_take_49 rfl ?_
    refine sw_iast dX3_take_50 (ho) (vp_in_nI (by omega) (by omega)) (fun g1 z1 e1 o1 => ?_)
    rw [nIupd (by omega)] at e1
    refine sw_aload_n dX3_take_51 rfl ?_
    refine sw_getf dX3_take_52 fl_X3_18 ((o1 _ (by omega)).trans hT) rfl ?_
    refine sw_iload_n dX3_take_55 rfl ?_
    refine sw_iload dX3_take_56 rfl ?_
    refine sw_iast dX3_take_58 ((o1 _ (by omega)).trans h6) (vp_in_nI (by omega) (by omega)) (fun g2 z2 e2 o2 => ?_)
    rw [nIupd (by omega)] at e2
    exact sw_return dX3_take_59 rfl (hP _ (z2.trans z1) ((o2 _ (by omega)).trans e1) e2 (fun j a b => (o2 j b).trans (o1 j a)))
  intro c
  induction c with
  | zero =>
    intro i q hi hq he
    refine sw_iload dX3_take_11 rfl ?_
    refine sw_iload_n dX3_take_13 rfl ?_
    refine sw_cmpge (tgt := 46) dX3_take_14 (by decide) (fun hc => ?_) (fun hc => ?_)
    · exact fin i q hq he
    · exact absurd (nI_le (by omega) (by omega)) hc
  | succ c ih =>
    intro i q hi hq he
    refine sw_iload dX3_take_11 rfl ?_
    refine sw_iload_n dX3_take_13 rfl ?_
    refine sw_cmpge (tgt := 46) dX3_take_14 (by decide) (fun hc => ?_) (fun hc => ?_)
    · exact absurd hc (nI_ge (by omega) (by omega))
    · refine sw_aload_n dX3_take_17 rfl ?_
      refine sw_iload dX3_take_18 rfl ?_
      refine sw_iald dX3_take_20 (ho) (vp_in_nI (by omega) (by omega)) (nIat (by omega) rfl) ?_
      refine sw_iconst (v := (-1)) dX3_take_21 (by decide) ?_
      refine sw_cmpeq (tgt := 46) dX3_take_22 (by decide) (fun hb2 => ?_) (fun hb2 => ?_)
      · exact fin i q hq (by rw [prb, if_pos hb2] at he; exact he)
      · refine sw_iload dX3_take_25 rfl ?_
        refine sw_aload_n dX3_take_27 rfl ?_
        refine sw_getf dX3_take_28 fl_X3_21 (hT) rfl ?_
        refine sw_iload_n dX3_take_31 rfl ?_
        refine sw_iald dX3_take_32 (h7) (vp_in_nI (by omega) (by omega)) (nIat (by omega) hs) ?_
        refine sw_iadd dX3_take_33 ?_
        rw [nI_add]
        refine sw_iload_n dX3_take_34 rfl ?_
        refine sw_csn2 dX3_take_35 cs_X3_63 (m_modulo) (fun r g hr => ?_)
        obtain ⟨rfl, rfl⟩ := hr
        rw [remN (by omega) (by omega) (by omega)]
        refine sw_istore dX3_take_38 (by decide) rfl ?_
        refine sw_iinc (v := nI (i + 1)) dX3_take_40 rfl (nI_1 i) (by decide) rfl ?_
        refine sw_goto (tgt := 11) dX3_take_43 (by decide) ?_
        exact ih (i + 1) ((q + s) % p) (by omega) (Nat.mod_lt _ (by omega)) (by rw [prb, if_neg hb2] at he; exact he)
theorem m_take {G : SG} {d o b p q s : Nat} {h : AH} {t pl sk : Nat → Int32} (hT : TabO h) (ho : h[o]? = some (.inl (0, 97, .inl t))) (h6 : h[6]? = some (.inl (0, 8, .inl pl))) (h7 : h[7]? = some (.inl (0, 8, .inl sk))) (ho3 : o ≠ 3 ∧ o ≠ 6 ∧ o ≠ 7) (hb : b < 8) (hq : pl b = nI q) (hqp : q < p) (hs : sk b = nI s) (hsp : s < p) (hp : p ≤ 97) :
    SW G mX3_take (d + 1) 0 0 0 [.ref 3, .ref o, .int (nI b), .int (nI p), .retAddr 0, .retAddr 0] [] h (fun r h' => r = none ∧ h'.length = h.length ∧ h'[o]? = some (.inl (0, 97, .inl (upd t (prb t s p p q) (nI b)))) ∧ h'[6]? = some (.inl (0, 8, .inl (upd pl b (nI (prb t s p p q))))) ∧ (∀ j, j ≠ o → j ≠ 6 → h'[j]? = h[j]?)) := by
  refine sw_aload_n dX3_take_0 rfl ?_
  refine sw_getf dX3_take_1 fl_X3_18 (hT) rfl ?_
  refine sw_iload_n dX3_take_4 rfl ?_
  refine sw_iald dX3_take_5 (h6) (vp_in_nI (by omega) (by omega)) (nIat (by omega) hq) ?_
  refine sw_istore dX3_take_6 (by decide) rfl ?_
  refine sw_iconst (v := 0) dX3_take_8 (by decide) ?_
  refine sw_istore dX3_take_9 (by decide) rfl ?_
  exact m_take_l hT ho h6 h7 ho3 hb hs hsp hp (fun h' a b c d => ⟨rfl, a, b, c, d⟩) p 0 q (by omega) hqp rfl
/-- what a table is made of: a world's keys and weights -/
def WV (h : AH) (b n : Nat) (ks wt : Nat → Int32) : Prop := (∃ fs, h[b]? = some (.inr (5, fs)) ∧ fs[0]? = some (.ref (b + 1)) ∧ fs[1]? = some (.ref (b + 2)) ∧ fs[4]? = some (.int (nI n))) ∧ h[b + 1]? = some (.inl (0, 8, .inl ks)) ∧ h[b + 2]? = some (.inl (0, 8, .inl wt)) ∧ n ≤ 8
theorem WV.kept {h h' : AH} {b n : Nat} {ks wt : Nat → Int32} (H : WV h b n ks wt) (hk : ∀ j, b ≤ j → j < b + 3 → h'[j]? = h[j]?) : WV h' b n ks wt := by
  obtain ⟨⟨fs, a0, a1⟩, a2, a3, a4⟩ := H
  exact ⟨⟨fs, (hk _ (by omega) (by omega)).trans a0, a1⟩, (hk _ (by omega) (by omega)).trans a2, (hk _ (by omega) (by omega)).trans a3, a4⟩
def filT (t : Nat → Int32) (i : Nat) : Nat → Int32 := fun j => if j < i then -1 else t j
theorem filT_step (t : Nat → Int32) (i : Nat) : upd (filT t i) i (-1) = filT t (i + 1) := by
  funext j
  unfold upd filT
  by_cases h : j = i
  · rw [if_pos h, if_pos (by omega)]
  · rw [if_neg h]
    by_cases h2 : j < i
    · rw [if_pos h2, if_pos (by omega)]
    · rw [if_neg h2, if_neg (by omega)]
theorem filT_0 (t : Nat → Int32) : filT t 0 = t := by
  funext j; unfold filT; rw [if_neg (by omega)]
def setU (m b : Nat) (v f : Nat → Int32) : Nat → Int32 := fun j => if j < b ∧ m.testBit j = true then v j else f j
theorem setU_step {m b : Nat} {v f : Nat → Int32} (h : m.testBit b = true) : upd (setU m b v f) b (v b) = setU m (b + 1) v f := by
  funext j
  unfold upd setU
  by_cases hj : j = b
  · rw [if_pos hj, hj, if_pos ⟨by omega, h⟩]
  · rw [if_neg hj]
    by_cases h2 : j < b ∧ m.testBit j = true
    · rw [if_pos h2, if_pos ⟨by omega, h2.2⟩]
    · rw [if_neg h2, if_neg (fun q => h2 ⟨by omega, q.2⟩)]
theorem setU_skip {m b : Nat} {v f : Nat → Int32} (h : ¬ m.testBit b = true) : setU m (b + 1) v f = setU m b v f := by
  funext j
  unfold setU
  by_cases h2 : j < b ∧ m.testBit j = true
  · rw [if_pos h2, if_pos ⟨by omega, h2.2⟩]
  · rw [if_neg h2, if_neg (fun q => h2 ⟨by
      rcases Nat.lt_or_ge j b with z | z
      · exact z
      · exact absurd (by rw [show b = j by omega]; exact q.2) h, q.2⟩)]
theorem setU_0 (m : Nat) (v f : Nat → Int32) : setU m 0 v f = f := by
  funext j; unfold setU; rw [if_neg (by omega)]
def hvy (m : Nat) (wt : Nat → Int32) : Nat → Int32
  | 0 => 0
  | b + 1 => if m.testBit b = true then (if hvy m wt b < wt b then wt b else hvy m wt b) else hvy m wt b
/-- the four rows that a making changes -/
def SameM (h h' : AH) (o : Nat) : Prop := h'.length = h.length ∧ ∀ j, j ≠ o → j ≠ 6 → j ≠ 7 → j ≠ 8 → h'[j]? = h[j]?
theorem SameM.rf {h : AH} {o : Nat} : SameM h h o := ⟨rfl, fun _ _ _ _ _ => rfl⟩
theorem SameM.tr {h h1 h2 : AH} {o : Nat} (a : SameM h h1 o) (b : SameM h1 h2 o) : SameM h h2 o := ⟨b.1.trans a.1, fun j x y z w => (b.2 j x y z w).trans (a.2 j x y z w)⟩
def oOk (o b : Nat) : Prop := (o ≠ 3 ∧ o ≠ 6 ∧ o ≠ 7 ∧ o ≠ 8) ∧ 9 ≤ b ∧ (o ≠ b ∧ o ≠ b + 1 ∧ o ≠ b + 2)
theorem m_start_2 {G : SG} {d o b n m p : Nat} {hh : AH} {t pl sk cr ks wt : Nat → Int32} {P : Option Value → AH → Prop} (hO : oOk o b) (hm : m < 256) (hp : p ≤ 97) (hT : TabO hh) (hW : WV hh b n ks wt)
    (hP : ∀ h' : AH, SameM hh h' o → h'[o]? = some (.inl (0, 97, .inl t)) → h'[6]? = some (.inl (0, 8, .inl (setU m n (fun j => offI (ks j) (nI p)) pl))) → h'[7]? = some (.inl (0, 8, .inl (setU m n (fun j => skpI (ks j) (nI p)) sk))) → h'[8]? = some (.inl (0, 8, .inl (setU m n (fun _ => 0) cr))) → P (some (.int (hvy m wt n))) h') :
    ∀ (c i : Nat) (h : AH), i + c = n → SameM hh h o → h[o]? = some (.inl (0, 97, .inl t)) → h[6]? = some (.inl (0, 8, .inl (setU m i (fun j => offI (ks j) (nI p)) pl))) → h[7]? = some (.inl (0, 8, .inl (setU m i (fun j => skpI (ks j) (nI p)) sk))) → h[8]? = some (.inl (0, 8, .inl (setU m i (fun _ => 0) cr))) → SW G mX3_start (d + 2) 0 0 27 [.ref 3, .ref o, .ref b, .int (nI m), .int (nI p), .int (hvy m wt i), .int (nI i)] [] h P := by
  obtain ⟨⟨fs, w0, w1, w2, w3⟩, wk, ww, hn8⟩ := hW
  obtain ⟨⟨o3, o6, o7, o8⟩, b9, ob, ob1, ob2⟩ := hO
  intro c
  induction c with
  | zero =>
    intro i h hi hS e0 e6 e7 e8
    have : i = n := by omega
    subst this
    refine sw_iload dX3_start_27 rfl ?_
    refine sw_aload_n dX3_start_29 rfl ?_
    refine sw_getf dX3_start_30 fl_X3_31 ((hS.2 b (by omega) (by omega) (by omega) (by omega)).trans w0) (w3) ?_
    refine sw_cmpge (tgt := 111) dX3_start_33 (by decide) (fun hc => ?_) (fun hc => ?_)
    · refine sw_iload dX3_start_111 rfl ?_
      exact sw_ireturn dX3_start_113 rfl rfl (hP h hS e0 e6 e7 e8)
    · exact absurd (nI_le (Nat.le_refl _) (by omega)) hc
  | succ c ih =>
    intro i h hi hS e0 e6 e7 e8
    refine sw_iload dX3_start_27 rfl ?_
    refine sw_aload_n dX3_start_29 rfl ?_
    refine sw_getf dX3_start_30 fl_X3_31 ((hS.2 b (by omega) (by omega) (by omega) (by omega)).trans w0) (w3) ?_
    refine sw_cmpge (tgt := 111) dX3_start_33 (by decide) (fun hc => ?_) (fun hc => ?_)
    · exact absurd hc (nI_ge (by omega) (by omega))
    · refine sw_iload_n dX3_start_36 rfl ?_
      refine sw_iload dX3_start_37 rfl ?_
      refine sw_csn2 dX3_start_39 cs_X3_37 (m_isAmong hm (show i < 8 by omega)) (fun r g hr => ?_)
      obtain ⟨rfl, rfl⟩ := hr
      refine sw_ifeq (tgt := 105) dX3_start_42 (by decide) (fun hb => ?_) (fun hb => ?_)
      · have hnb : ¬ m.testBit i = true := bz_eq0.mp hb
        refine sw_iinc (v := nI (i + 1)) dX3_start_105 rfl (nI_1 i) (by decide) rfl ?_
        refine sw_goto (tgt := 27) dX3_start_108 (by decide) ?_
        have hh2 : hvy m wt (i + 1) = hvy m wt i := by rw [hvy, if_neg hnb]
        have := ih (i + 1) g (by omega) hS e0 (by rw [setU_skip hnb]; exact e6) (by rw [setU_skip hnb]; exact e7) (by rw [setU_skip hnb]; exact e8)
        rw [hh2] at this
        exact this
      · have hnb : m.testBit i = true := bz_eq1.mp hb
        have gT : TabO g := (hS.2 3 (by omega) (by omega) (by omega) (by omega)).trans hT
        have gW := (hS.2 b (by omega) (by omega) (by omega) (by omega)).trans w0
        have gk := (hS.2 (b + 1) (by omega) (by omega) (by omega) (by omega)).trans wk
        have gw := (hS.2 (b + 2) (by omega) (by omega) (by omega) (by omega)).trans ww
        refine sw_aload_n dX3_start_45 rfl ?_
        refine sw_getf dX3_start_46 fl_X3_18 (gT) rfl ?_
        refine sw_iload dX3_start_49 rfl ?_
        refine sw_aload_n dX3_start_51 rfl ?_
        refine sw_getf dX3_start_52 fl_X3_48 (gW) (w1) ?_
        refine sw_iload dX3_start_55 rfl ?_
        refine sw_iald dX3_start_57 (gk) (vp_in_nI (by omega) (by omega)) (nIat (by omega) rfl) ?_
        refine sw_iload dX3_start_58 rfl ?_
        refine sw_csn2 dX3_start_60 cs_X3_51 (m_offsetOf) (fun r g1 hr => ?_)
        obtain ⟨rfl, rfl⟩ := hr
        refine sw_iast dX3_start_63 (e6) (vp_in_nI (by omega) (by omega)) (fun g1 z1 e6 q1 => ?_)
        rw [nIupd (by omega), setU_step (v := fun j => offI (ks j) (nI p)) hnb] at e6
        have gT := (q1 _ (by omega)).trans gT
        have gW := (q1 _ (by omega)).trans gW
        have gk := (q1 _ (by omega)).trans gk
        have gw := (q1 _ (by omega)).trans gw
        have e7 := (q1 _ (by omega)).trans e7
        have e8 := (q1 _ (by omega)).trans e8
        have e0 := (q1 _ (by omega)).trans e0
        refine sw_aload_n dX3_start_64 rfl ?_
        refine sw_getf dX3_start_65 fl_X3_21 (gT) rfl ?_
        refine sw_iload dX3_start_68 rfl ?_
        refine sw_aload_n dX3_start_70 rfl ?_
        refine sw_getf dX3_start_71 fl_X3_48 (gW) (w1) ?_
        refine sw_iload dX3_start_74 rfl ?_
        refine sw_iald dX3_start_76 (gk) (vp_in_nI (by omega) (by omega)) (nIat (by omega) rfl) ?_
        refine sw_iload dX3_start_77 rfl ?_
        refine sw_csn2 dX3_start_79 cs_X3_55 (m_skipOf) (fun r g2 hr => ?_)
        obtain ⟨rfl, rfl⟩ := hr
        refine sw_iast dX3_start_82 (e7) (vp_in_nI (by omega) (by omega)) (fun g2 z2 e7 q2 => ?_)
        rw [nIupd (by omega), setU_step (v := fun j => skpI (ks j) (nI p)) hnb] at e7
        have gT := (q2 _ (by omega)).trans gT
        have gW := (q2 _ (by omega)).trans gW
        have gw := (q2 _ (by omega)).trans gw
        have e6 := (q2 _ (by omega)).trans e6
        have e8 := (q2 _ (by omega)).trans e8
        have e0 := (q2 _ (by omega)).trans e0
        refine sw_aload_n dX3_start_83 rfl ?_
        refine sw_getf dX3_start_84 fl_X3_24 (gT) rfl ?_
        refine sw_iload dX3_start_87 rfl ?_
        refine sw_iconst (v := 0) dX3_start_89 (by decide) ?_
        refine sw_iast dX3_start_90 (e8) (vp_in_nI (by omega) (by omega)) (fun g3 z3 e8 q3 => ?_)
        rw [nIupd (by omega), setU_step (v := fun _ => 0) hnb] at e8
        have gW := (q3 _ (by omega)).trans gW
        have gw := (q3 _ (by omega)).trans gw
        have e6 := (q3 _ (by omega)).trans e6
        have e7 := (q3 _ (by omega)).trans e7
        have e0 := (q3 _ (by omega)).trans e0
        refine sw_iload dX3_start_91 rfl ?_
        refine sw_aload_n dX3_start_93 rfl ?_
        refine sw_getf dX3_start_94 fl_X3_41 (gW) (w2) ?_
        refine sw_iload dX3_start_97 rfl ?_
        refine sw_iald dX3_start_99 (gw) (vp_in_nI (by omega) (by omega)) (nIat (by omega) rfl) ?_
        refine sw_cs2 dX3_start_100 cs_X3_58 (m_max) (fun r g4 hr => ?_)
        obtain ⟨rfl, rfl⟩ := hr
        refine sw_istore dX3_start_103 (by decide) rfl ?_
        refine sw_iinc (v := nI (i + 1)) dX3_start_105 rfl (nI_1 i) (by decide) rfl ?_
        refine sw_goto (tgt := 27) dX3_start_108 (by decide) ?_
        have hh2 : hvy m wt (i + 1) = (if hvy m wt i < wt i then wt i else hvy m wt i) := by rw [hvy, if_pos hnb]
        have := ih (i + 1) g4 (by omega) (hS.tr ⟨z3.trans (z2.trans z1), fun j x y z w => (q3 j w).trans ((q2 j z).trans (q1 j y))⟩) e0 e6 e7 e8
        rw [hh2] at this
        exact this
theorem m_start {G : SG} {d o b n m p : Nat} {h : AH} {t pl sk cr ks wt : Nat → Int32} (hO : oOk o b) (hm : m < 256) (hp : p ≤ 97) (hT : TabO h) (hW : WV h b n ks wt) (ho : h[o]? = some (.inl (0, 97, .inl t))) (h6 : h[6]? = some (.inl (0, 8, .inl pl))) (h7 : h[7]? = some (.inl (0, 8, .inl sk))) (h8 : h[8]? = some (.inl (0, 8, .inl cr))) :
    SW G mX3_start (d + 2) 0 0 0 [.ref 3, .ref o, .ref b, .int (nI m), .int (nI p), .retAddr 0, .retAddr 0] [] h (fun r h' => r = some (.int (hvy m wt n)) ∧ SameM h h' o ∧ h'[o]? = some (.inl (0, 97, .inl (filT t p))) ∧ h'[6]? = some (.inl (0, 8, .inl (setU m n (fun j => offI (ks j) (nI p)) pl))) ∧ h'[7]? = some (.inl (0, 8, .inl (setU m n (fun j => skpI (ks j) (nI p)) sk))) ∧ h'[8]? = some (.inl (0, 8, .inl (setU m n (fun _ => 0) cr)))) := by
  have hO2 := hO
  obtain ⟨⟨o3, o6, o7, o8⟩, b9, ob, ob1, ob2⟩ := hO2
  have loop : ∀ (c i : Nat) (g : AH), i + c = p → g.length = h.length → g[o]? = some (.inl (0, 97, .inl (filT t i))) → (∀ j, j ≠ o → g[j]? = h[j]?) → SW G mX3_start (d + 2) 0 0 3 [.ref 3, .ref o, .ref b, .int (nI m), .int (nI p), .int (nI i), .retAddr 0] [] g (fun r h' => r = some (.int (hvy m wt n)) ∧ SameM h h' o ∧ h'[o]? = some (.inl (0, 97, .inl (filT t p))) ∧ h'[6]? = some (.inl (0, 8, .inl (setU m n (fun j => offI (ks j) (nI p)) pl))) ∧ h'[7]? = some (.inl (0, 8, .inl (setU m n (fun j => skpI (ks j) (nI p)) sk))) ∧ h'[8]? = some (.inl (0, 8, .inl (setU m n (fun _ => 0) cr)))) := by
    intro c
    induction c with
    | zero =>
      intro i g hi hz e0 q
      have : i = p := by omega
      subst this
      refine sw_iload dX3_start_3 rfl ?_
      refine sw_iload dX3_start_5 rfl ?_
      refine sw_cmpge (tgt := 21) dX3_start_7 (by decide) (fun hc => ?_) (fun hc => ?_)
      · refine sw_iconst (v := 0) dX3_start_21 (by decide) ?_
        refine sw_istore dX3_start_22 (by decide) rfl ?_
        refine sw_iconst (v := 0) dX3_start_24 (by decide) ?_
        refine sw_istore dX3_start_25 (by decide) rfl ?_
        have hS : SameM h g o := ⟨hz, fun j x _ _ _ => q j x⟩
        refine m_start_2 (t := filT t i) (pl := pl) (sk := sk) (cr := cr) (hh := g) hO hm hp ((q 3 (by omega)).trans hT) (hW.kept (fun j a b => q j (by omega))) (fun h' a b c d e => ⟨rfl, hS.tr a, b, c, d, e⟩) n 0 g (by omega) SameM.rf e0 ?_ ?_ ?_
        · rw [setU_0]; exact (q 6 (by omega)).trans h6
        · rw [setU_0]; exact (q 7 (by omega)).trans h7
        · rw [setU_0]; exact (q 8 (by omega)).trans h8
      · exact absurd (nI_le (Nat.le_refl _) (by omega)) hc
    | succ c ih =>
      intro i g hi hz e0 q
      refine sw_iload dX3_start_3 rfl ?_
      refine sw_iload dX3_start_5 rfl ?_
      refine sw_cmpge (tgt := 21) dX3_start_7 (by decide) (fun hc => ?_) (fun hc => ?_)
      · exact absurd hc (nI_ge (by omega) (by omega))
      · refine sw_aload_n dX3_start_10 rfl ?_
        refine sw_iload dX3_start_11 rfl ?_
        refine sw_iconst (v := (-1)) dX3_start_13 (by decide) ?_
        refine sw_iast dX3_start_14 (e0) (vp_in_nI (by omega) (by omega)) (fun g1 z1 e1 q1 => ?_)
        rw [nIupd (by omega), filT_step] at e1
        refine sw_iinc (v := nI (i + 1)) dX3_start_15 rfl (nI_1 i) (by decide) rfl ?_
        refine sw_goto (tgt := 3) dX3_start_18 (by decide) ?_
        exact ih (i + 1) g1 (by omega) (z1.trans hz) e1 (fun j x => (q1 j x).trans (q j x))
  refine sw_iconst (v := 0) dX3_start_0 (by decide) ?_
  refine sw_istore dX3_start_1 (by decide) rfl ?_
  exact loop p 0 h (by omega) rfl (by rw [filT_0]; exact ho) (fun _ _ => rfl)
