/-- rows, places, credits, free slots -/
abbrev TS : Type := (Nat → Int32) × (Nat → Int32) × (Nat → Int32) × Nat
def vis (p : Nat) (hv : Int32) (m : Nat) (wt sk : Nat → Int32) (b : Nat) (S : TS) : TS :=
  if m.testBit b = true then
    if hv ≤ S.2.2.1 b + wt b then
      (upd S.1 (prb S.1 (sk b).toNatClampNeg p p (S.2.1 b).toNatClampNeg) (nI b), upd S.2.1 b (nI (prb S.1 (sk b).toNatClampNeg p p (S.2.1 b).toNatClampNeg)), upd (upd S.2.2.1 b (S.2.2.1 b + wt b)) b (S.2.2.1 b + wt b - hv), S.2.2.2 - 1)
    else (S.1, S.2.1, upd S.2.2.1 b (S.2.2.1 b + wt b), S.2.2.2)
  else S
def inn (p : Nat) (hv : Int32) (m : Nat) (wt sk : Nat → Int32) : Nat → Nat → TS → TS
  | 0, _, S => S
  | c + 1, b, S => if S.2.2.2 = 0 then S else inn p hv m wt sk c (b + 1) (vis p hv m wt sk b S)
def rnd (p n : Nat) (hv : Int32) (m : Nat) (wt sk : Nat → Int32) : Nat → TS → TS
  | 0, S => S
  | c + 1, S => if S.2.2.2 = 0 then S else rnd p n hv m wt sk c (inn p hv m wt sk n 0 S)
/-- the places are slots -/
def plOk (p n m : Nat) (S : TS) : Prop := (∀ b, b < n → m.testBit b = true → ∃ q, q < p ∧ S.2.1 b = nI q) ∧ S.2.2.2 ≤ p
def skOk (p n m : Nat) (sk : Nat → Int32) : Prop := ∀ b, b < n → m.testBit b = true → ∃ q, q < p ∧ sk b = nI q
theorem vis_ok {p n m b : Nat} {hv : Int32} {wt sk : Nat → Int32} {S : TS} (hp : 0 < p) (hp2 : p ≤ 97) (hS : plOk p n m S) (hb : b < n) : plOk p n m (vis p hv m wt sk b S) := by
  unfold vis
  split
  · next hbit =>
    split
    · refine ⟨fun i hi hm => ?_, by have := hS.2; show S.2.2.2 - 1 ≤ p; omega⟩
      obtain ⟨q, hq, hqe⟩ := hS.1 b hb hbit
      by_cases h : i = b
      · refine ⟨_, ?_, by simp only [upd, if_pos h]; rfl⟩
        rw [hqe, nI_clamp (by omega)]
        exact prb_lt hp _ _ hq
      · simp only [upd, if_neg h]
        exact hS.1 i hi hm
    · exact hS
  · exact hS
def HM (hh h : AH) (o : Nat) (sk : Nat → Int32) (S : TS) : Prop := SameM hh h o ∧ h[o]? = some (.inl (0, 97, .inl S.1)) ∧ h[6]? = some (.inl (0, 8, .inl S.2.1)) ∧ h[7]? = some (.inl (0, 8, .inl sk)) ∧ h[8]? = some (.inl (0, 8, .inl S.2.2.1))
theorem m_make_in {G : SG} {d o b n m p r : Nat} {hv : Int32} {hh : AH} {sk ks wt : Nat → Int32} {P : Option Value → AH → Prop} (hO : oOk o b) (hm : m < 256) (hp0 : 0 < p) (hp : p ≤ 97) (hT : TabO hh) (hW : WV hh b n ks wt) (hsk : skOk p n m sk) :
    ∀ (c i : Nat) (h : AH) (S : TS), i + c = n → plOk p n m S → HM hh h o sk S → (∀ (h' : AH) (i' : Nat), HM hh h' o sk (inn p hv m wt sk c i S) → plOk p n m (inn p hv m wt sk c i S) → SW G mX3_make (d + 3) 0 0 124 [.ref 3, .ref o, .ref b, .int (nI m), .int (nI p), .int hv, .int (nI (inn p hv m wt sk c i S).2.2.2), .int (nI r), .int (nI i')] [] h' P) →
      SW G mX3_make (d + 3) 0 0 42 [.ref 3, .ref o, .ref b, .int (nI m), .int (nI p), .int hv, .int (nI S.2.2.2), .int (nI r), .int (nI i)] [] h P := by
  obtain ⟨⟨fs, w0, w1, w2, w3⟩, wk, ww, hn8⟩ := hW
  obtain ⟨⟨o3, o6, o7, o8⟩, b9, ob, ob1, ob2⟩ := hO
  intro c
  induction c with
  | zero =>
    intro i h S hi hpl hH hK
    refine sw_iload dX3_make_42 rfl ?_
    refine sw_aload_n dX3_make_44 rfl ?_
    refine sw_getf dX3_make_45 fl_X3_31 ((hH.1.2 b (by omega) (by omega) (by omega) (by omega)).trans w0) (w3) ?_
    refine sw_cmpge (tgt := 124) dX3_make_48 (by decide) (fun hc => ?_) (fun hc => ?_)
    · exact hK h i hH hpl
    · exact absurd (nI_le (by omega) (by omega)) hc
  | succ c ih =>
    intro i h S hi hpl hH hK
    obtain ⟨hS, e0, e6, e7, e8⟩ := id hH
    have gW := (hS.2 b (by omega) (by omega) (by omega) (by omega)).trans w0
    have gw := (hS.2 (b + 2) (by omega) (by omega) (by omega) (by omega)).trans ww
    have gT : TabO h := (hS.2 3 (by omega) (by omega) (by omega) (by omega)).trans hT
    have hfr := hpl.2
    refine sw_iload dX3_make_42 rfl ?_
    refine sw_aload_n dX3_make_44 rfl ?_
    refine sw_getf dX3_make_45 fl_X3_31 (gW) (w3) ?_
    refine sw_cmpge (tgt := 124) dX3_make_48 (by decide) (fun hc => ?_) (fun hc => ?_)
    · exact absurd hc (nI_ge (by omega) (by omega))
    · refine sw_iload dX3_make_51 rfl ?_
      refine sw_ifle (tgt := 124) dX3_make_53 (by decide) (fun hf => ?_) (fun hf => ?_)
      · have hz : S.2.2.2 = 0 := by
          rcases Nat.eq_zero_or_pos S.2.2.2 with z | z
          · exact z
          · exact absurd hf (nI_nle z (by omega))
        have hin : inn p hv m wt sk (c + 1) i S = S := by rw [inn, if_pos hz]
        rw [hin] at hK
        exact hK h i hH hpl
      · have hz : ¬ S.2.2.2 = 0 := fun z => hf (by rw [z, nI_0]; exact Int32.le_refl _)
        have hin : inn p hv m wt sk (c + 1) i S = inn p hv m wt sk c (i + 1) (vis p hv m wt sk i S) := by rw [inn, if_neg hz]
        rw [hin] at hK
        refine sw_iload_n dX3_make_56 rfl ?_
        refine sw_iload dX3_make_57 rfl ?_
        refine sw_csn2 dX3_make_59 cs_X3_37 (m_isAmong hm (show i < 8 by omega)) (fun r9 g hr => ?_)
        obtain ⟨rfl, rfl⟩ := hr
        refine sw_ifeq (tgt := 118) dX3_make_62 (by decide) (fun hb => ?_) (fun hb => ?_)
        · have hnb : ¬ m.testBit i = true := bz_eq0.mp hb
          have hvv : vis p hv m wt sk i S = S := by rw [vis, if_neg hnb]
          rw [hvv] at hK
          refine sw_iinc (v := nI (i + 1)) dX3_make_118 rfl (nI_1 i) (by decide) rfl ?_
          refine sw_goto (tgt := 42) dX3_make_121 (by decide) ?_
          exact ih (i + 1) g S (by omega) hpl hH hK
        · have hnb : m.testBit i = true := bz_eq1.mp hb
          refine sw_aload_n dX3_make_65 rfl ?_
          refine sw_getf dX3_make_66 fl_X3_24 (gT) rfl ?_
          refine sw_iload dX3_make_69 rfl ?_
          refine sw_dup2 dX3_make_71 rfl rfl ?_
          refine sw_iald dX3_make_72 (e8) (vp_in_nI (by omega) (by omega)) (nIat (by omega) rfl) ?_
          refine sw_aload_n dX3_make_73 rfl ?_
          refine sw_getf dX3_make_74 fl_X3_41 (gW) (w2) ?_
          refine sw_iload dX3_make_77 rfl ?_
          refine sw_iald dX3_make_79 (gw) (vp_in_nI (by omega) (by omega)) (nIat (by omega) rfl) ?_
          refine sw_iadd dX3_make_80 ?_
          refine sw_iast dX3_make_81 (e8) (vp_in_nI (by omega) (by omega)) (fun g1 z1 e8 q1 => ?_)
          rw [nIupd (by omega)] at e8
          have gT := (q1 _ (by omega)).trans gT
          have e0 := (q1 _ (by omega)).trans e0
          have e6 := (q1 _ (by omega)).trans e6
          have e7 := (q1 _ (by omega)).trans e7
          have hS1 : SameM hh g1 o := hS.tr ⟨z1, fun j _ _ _ w => q1 j w⟩
          refine sw_aload_n dX3_make_82 rfl ?_
          refine sw_getf dX3_make_83 fl_X3_24 (gT) rfl ?_
          refine sw_iload dX3_make_86 rfl ?_
          refine sw_iald dX3_make_88 (e8) (vp_in_nI (by omega) (by omega)) (nIat (v := S.2.2.1 i + wt i) (by omega) (by simp [upd])) ?_
          refine sw_iload dX3_make_89 rfl ?_
          refine sw_cmplt (tgt := 118) dX3_make_91 (by decide) (fun hl => ?_) (fun hl => ?_)
          · have hvv : vis p hv m wt sk i S = (S.1, S.2.1, upd S.2.2.1 i (S.2.2.1 i + wt i), S.2.2.2) := by rw [vis, if_pos hnb, if_neg (Int32.not_le.mpr hl)]
            have hpl2 := vis_ok (wt := wt) (sk := sk) (hv := hv) hp0 hp hpl (show i < n by omega)
            rw [hvv] at hK hpl2
            refine sw_iinc (v := nI (i + 1)) dX3_make_118 rfl (nI_1 i) (by decide) rfl ?_
            refine sw_goto (tgt := 42) dX3_make_121 (by decide) ?_
            exact ih (i + 1) g1 (S.1, S.2.1, upd S.2.2.1 i (S.2.2.1 i + wt i), S.2.2.2) (by omega) hpl2 ⟨hS1, e0, e6, e7, e8⟩ hK
          · obtain ⟨q, hq, hqe⟩ := hpl.1 i (by omega) hnb
            obtain ⟨sn, hsn, hse⟩ := hsk i (by omega) hnb
            have hvv : vis p hv m wt sk i S = (upd S.1 (prb S.1 sn p p q) (nI i), upd S.2.1 i (nI (prb S.1 sn p p q)), upd (upd S.2.2.1 i (S.2.2.1 i + wt i)) i (S.2.2.1 i + wt i - hv), S.2.2.2 - 1) := by
              rw [vis, if_pos hnb, if_pos (Int32.not_lt.mp hl), hqe, hse, nI_clamp (by omega), nI_clamp (by omega)]
            have hpl2 := vis_ok (wt := wt) (sk := sk) (hv := hv) hp0 hp hpl (show i < n by omega)
            rw [hvv] at hK hpl2
            refine sw_aload_n dX3_make_94 rfl ?_
            refine sw_getf dX3_make_95 fl_X3_24 (gT) rfl ?_
            refine sw_iload dX3_make_98 rfl ?_
            refine sw_dup2 dX3_make_100 rfl rfl ?_
            refine sw_iald dX3_make_101 (e8) (vp_in_nI (by omega) (by omega)) (nIat (v := S.2.2.1 i + wt i) (by omega) (by simp [upd])) ?_
            refine sw_iload dX3_make_102 rfl ?_
            refine sw_isub dX3_make_104 ?_
            refine sw_iast dX3_make_105 (e8) (vp_in_nI (by omega) (by omega)) (fun g2 z2 e8 q2 => ?_)
            rw [nIupd (by omega)] at e8
            have gT := (q2 _ (by omega)).trans gT
            have e0 := (q2 _ (by omega)).trans e0
            have e6 := (q2 _ (by omega)).trans e6
            have e7 := (q2 _ (by omega)).trans e7
            refine sw_aload_n dX3_make_106 rfl ?_
            refine sw_aload_n dX3_make_107 rfl ?_
            refine sw_iload dX3_make_108 rfl ?_
            refine sw_iload dX3_make_110 rfl ?_
            refine sw_cv3 dX3_make_112 cv_X3_44 (rc_of gT rfl) (m_take (q := q) (s := sn) gT e0 e6 e7 ⟨o3, o6, o7⟩ (show i < 8 by omega) hqe hq hse hsn hp) (fun r9 g3 hr => ?_)
            obtain ⟨rfl, z3, e0, e6, q3⟩ := hr
            have e7 := (q3 _ (by omega) (by omega)).trans e7
            have e8 := (q3 _ (by omega) (by omega)).trans e8
            refine sw_iinc (v := nI (S.2.2.2 - 1)) dX3_make_115 rfl (by rw [← nI_p (by omega), Int32.sub_eq_add_neg]; rfl) (by decide) rfl ?_
            refine sw_iinc (v := nI (i + 1)) dX3_make_118 rfl (nI_1 i) (by decide) rfl ?_
            refine sw_goto (tgt := 42) dX3_make_121 (by decide) ?_
            exact ih (i + 1) g3 _ (by omega) hpl2 ⟨hS1.tr ⟨z3.trans z2, fun j x y z w => (q3 j x y).trans (q2 j w)⟩, e0, e6, e7, e8⟩ hK
theorem inn_ok {p n m : Nat} {hv : Int32} {wt sk : Nat → Int32} (hp : 0 < p) (hp2 : p ≤ 97) : ∀ (c i : Nat) (S : TS), i + c ≤ n → plOk p n m S → plOk p n m (inn p hv m wt sk c i S) := by
  intro c
  induction c with
  | zero => intro i S _ h; exact h
  | succ c ih =>
    intro i S hi h
    unfold inn
    split
    · exact h
    · exact ih (i + 1) _ (by omega) (vis_ok hp hp2 h (by omega))
theorem m_make_out {G : SG} {d o b n m p : Nat} {hv : Int32} {hh : AH} {sk ks wt : Nat → Int32} {P : Option Value → AH → Prop} (hO : oOk o b) (hm : m < 256) (hp0 : 0 < p) (hp : p ≤ 97) (hT : TabO hh) (hW : WV hh b n ks wt) (hsk : skOk p n m sk) :
    ∀ (c r : Nat) (h : AH) (S : TS) (x : Value), r + c = p → plOk p n m S → HM hh h o sk S → (∀ h', HM hh h' o sk (rnd p n hv m wt sk c S) → P none h') →
      SW G mX3_make (d + 3) 0 0 27 [.ref 3, .ref o, .ref b, .int (nI m), .int (nI p), .int hv, .int (nI S.2.2.2), .int (nI r), x] [] h P := by
  intro c
  induction c with
  | zero =>
    intro r h S x hr hpl hH hP
    refine sw_iload dX3_make_27 rfl ?_
    refine sw_iload dX3_make_29 rfl ?_
    refine sw_cmpge (tgt := 130) dX3_make_31 (by decide) (fun hc => ?_) (fun hc => ?_)
    · exact sw_return dX3_make_130 rfl (hP h hH)
    · exact absurd (nI_le (by omega) (by omega)) hc
  | succ c ih =>
    intro r h S x hr hpl hH hP
    have hfr := hpl.2
    refine sw_iload dX3_make_27 rfl ?_
    refine sw_iload dX3_make_29 rfl ?_
    refine sw_cmpge (tgt := 130) dX3_make_31 (by decide) (fun hc => ?_) (fun hc => ?_)
    · exact absurd hc (nI_ge (by omega) (by omega))
    · refine sw_iload dX3_make_34 rfl ?_
      refine sw_ifle (tgt := 130) dX3_make_36 (by decide) (fun hf => ?_) (fun hf => ?_)
      · have hz : S.2.2.2 = 0 := by
          rcases Nat.eq_zero_or_pos S.2.2.2 with z | z
          · exact z
          · exact absurd hf (nI_nle z (by omega))
        exact sw_return dX3_make_130 rfl (hP h (by rw [rnd, if_pos hz]; exact hH))
      · have hz : ¬ S.2.2.2 = 0 := fun z => hf (by rw [z, nI_0]; exact Int32.le_refl _)
        refine sw_iconst (v := 0) dX3_make_39 (by decide) ?_
        refine sw_istore dX3_make_40 (by decide) rfl ?_
        refine m_make_in hO hm hp0 hp hT hW hsk n 0 h S (by omega) hpl hH (fun h' i' hH' hpl' => ?_)
        refine sw_iinc (v := nI (r + 1)) dX3_make_124 rfl (nI_1 r) (by decide) rfl ?_
        refine sw_goto (tgt := 27) dX3_make_127 (by decide) ?_
        exact ih (r + 1) h' _ _ (by omega) hpl' hH' (fun h2 z => hP h2 (by rw [rnd, if_neg hz]; exact z))
/-- the table of the backends m, of size p -/
def mkS (p n m : Nat) (ks wt : Nat → Int32) (t pl sk cr : Nat → Int32) : TS :=
  rnd p n (hvy m wt n) m wt (setU m n (fun j => skpI (ks j) (nI p)) sk) p (filT t p, setU m n (fun j => offI (ks j) (nI p)) pl, setU m n (fun _ => 0) cr, if hvy m wt n = 0 then 0 else p)
theorem m_make {G : SG} {d o b n m p : Nat} {h : AH} {t pl sk cr ks wt : Nat → Int32} (hO : oOk o b) (hm : m < 256) (hp0 : 1 < p) (hp : p ≤ 97) (hT : TabO h) (hW : WV h b n ks wt) (ho : h[o]? = some (.inl (0, 97, .inl t))) (h6 : h[6]? = some (.inl (0, 8, .inl pl))) (h7 : h[7]? = some (.inl (0, 8, .inl sk))) (h8 : h[8]? = some (.inl (0, 8, .inl cr))) :
    SW G mX3_make (d + 3) 0 0 0 [.ref 3, .ref o, .ref b, .int (nI m), .int (nI p), .retAddr 0, .retAddr 0, .retAddr 0, .retAddr 0] [] h (fun r h' => r = none ∧ HM h h' o (setU m n (fun j => skpI (ks j) (nI p)) sk) (mkS p n m ks wt t pl sk cr)) := by
  have hn8 := hW.2.2.2
  refine sw_aload_n dX3_make_0 rfl ?_
  refine sw_aload_n dX3_make_1 rfl ?_
  refine sw_aload_n dX3_make_2 rfl ?_
  refine sw_iload_n dX3_make_3 rfl ?_
  refine sw_iload dX3_make_4 rfl ?_
  refine sw_cv4 dX3_make_6 cv_X3_27 (rc_of hT rfl) (m_start hO hm hp hT hW ho h6 h7 h8) (fun r g hr => ?_)
  obtain ⟨rfl, hS, e0, e6, e7, e8⟩ := hr
  have hO2 := hO
  obtain ⟨⟨o3, o6, o7, o8⟩, b9, ob, ob1, ob2⟩ := hO2
  have key : ∀ (f : Nat), f ≤ p → (if hvy m wt n = 0 then 0 else p) = f → SW G mX3_make (d + 3) 0 0 22 [.ref 3, .ref o, .ref b, .int (nI m), .int (nI p), .int (hvy m wt n), .retAddr 0, .retAddr 0, .retAddr 0] [.int (nI f)] g (fun r h' => r = none ∧ HM h h' o (setU m n (fun j => skpI (ks j) (nI p)) sk) (mkS p n m ks wt t pl sk cr)) := by
    intro f hf hfe
    refine sw_istore dX3_make_22 (by decide) rfl ?_
    refine sw_iconst (v := 0) dX3_make_24 (by decide) ?_
    refine sw_istore dX3_make_25 (by decide) rfl ?_
    refine m_make_out (hh := h) hO hm (by omega) hp hT hW ?_ p 0 g (filT t p, setU m n (fun j => offI (ks j) (nI p)) pl, setU m n (fun _ => 0) cr, f) (.retAddr 0) (by omega) ⟨?_, hf⟩ ⟨hS, e0, e6, e7, e8⟩ (fun h' z => ⟨rfl, by unfold mkS; rw [hfe]; exact z⟩)
    · intro i hi hbit
      refine ⟨skpN (ks i) p, skpN_lt hp0, ?_⟩
      simp only [setU, if_pos (And.intro hi hbit)]
      exact skpI_N hp0 (by omega)
    · intro i hi hbit
      refine ⟨offN (ks i) p, offN_lt (by omega), ?_⟩
      simp only [setU, if_pos (And.intro hi hbit)]
      exact offI_N (by omega) (by omega)
  refine sw_istore dX3_make_9 (by decide) rfl ?_
  refine sw_iload dX3_make_11 rfl ?_
  refine sw_ifne (tgt := 20) dX3_make_13 (by decide) (fun hc => ?_) (fun hc => ?_)
  · refine sw_iload dX3_make_20 rfl ?_
    exact key p (Nat.le_refl _) (by rw [if_neg hc])
  · refine sw_iconst (v := 0) dX3_make_16 (by decide) ?_
    refine sw_goto (tgt := 22) dX3_make_17 (by decide) ?_
    exact key 0 (by omega) (by rw [if_pos hc])
