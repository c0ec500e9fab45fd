/-! the text, by the reference -/
def TX (h : AH) (ra fa : Int32) (n T : Nat) (wr va pl sm gt : Int32) : Prop := h[75]? = some (.inr (7, [.int ra, .ref 76, .ref 77, .ref 78, .ref 79, .ref 80, .ref 81, .ref 82, .ref 83, .int (nI n), .int fa, .int (nI T), .int wr, .int va, .int pl, .int sm, .int gt]))
theorem TX.M {h : AH} {ra fa : Int32} {n T : Nat} {wr va pl sm gt : Int32} (H : TX h ra fa n T wr va pl sm gt) : MoAt h (ra, nI n, fa, nI T, wr, va, pl, sm, gt) := H
def TpAt (h : AH) (n : Nat) (tc : Nat → Int32) : Prop := ∃ tp, h[83]? = some (.inl (0, 400, .inl tp)) ∧ tOk tp tc n
def SameO (h h' : AH) : Prop := h'.length = h.length ∧ ∀ j, j ≠ 75 → h'[j]? = h[j]?
theorem SameO.rf {h : AH} : SameO h h := ⟨rfl, fun _ _ => rfl⟩
theorem SameO.tr {h h1 h2 : AH} (x : SameO h h1) (y : SameO h1 h2) : SameO h h2 := ⟨y.1.trans x.1, fun j p => (y.2 j p).trans (x.2 j p)⟩
theorem TpAt.O {h h' : AH} {n : Nat} {tc : Nat → Int32} (H : TpAt h n tc) (o : SameO h h') : TpAt h' n tc := by
  obtain ⟨tp, a, b⟩ := H
  exact ⟨tp, (o.2 83 (by omega)).trans a, b⟩
theorem lg0 {x z : Int64} : lg_cmp x z = 0 ↔ x = z := by
  unfold lg_cmp
  by_cases h : x > z
  · rw [if_pos h]
    refine ⟨fun q => absurd q (by decide), fun q => ?_⟩
    rw [q] at h
    have := Int64.lt_iff_toInt_lt.mp h
    omega
  · rw [if_neg h]
    by_cases h2 : x = z
    · rw [if_pos h2]; exact ⟨fun _ => h2, fun _ => rfl⟩
    · rw [if_neg h2]; exact ⟨fun q => absurd q (by decide), fun q => absurd q h2⟩
theorem r_ne {a b : Int32} (h : ¬ a.toInt = b.toInt) : ¬ a = b := fun q => h (by rw [q])
theorem kd1 {tc : Nat → Int32} {n i : Nat} : kindF tc n i = 1 ↔ i < n ∧ (tc i = 32 ∨ tc i = 10) := by
  unfold kindF kindC
  by_cases hi : i < n
  · rw [if_pos hi]
    by_cases h1 : 97 ≤ tc i ∧ tc i ≤ 122
    · rw [if_pos h1]
      refine ⟨fun q => absurd q (by decide), fun ⟨_, q⟩ => ?_⟩
      rcases q with q | q <;> (rw [q] at h1; exact absurd h1 (by decide))
    · rw [if_neg h1]
      by_cases h2 : 48 ≤ tc i ∧ tc i ≤ 57
      · rw [if_pos h2]
        refine ⟨fun q => absurd q (by decide), fun ⟨_, q⟩ => ?_⟩
        rcases q with q | q <;> (rw [q] at h2; exact absurd h2 (by decide))
      · rw [if_neg h2]
        by_cases h3 : tc i = 32 ∨ tc i = 10
        · rw [if_pos h3]; exact ⟨fun _ => ⟨hi, h3⟩, fun _ => rfl⟩
        · rw [if_neg h3]
          refine ⟨fun q => ?_, fun q => absurd q.2 h3⟩
          split at q <;> omega
  · rw [if_neg hi]; exact ⟨fun q => absurd q (by decide), fun q => absurd q.1 hi⟩
theorem kd2 {tc : Nat → Int32} {n i : Nat} : kindF tc n i = 2 ↔ i < n ∧ (97 ≤ tc i ∧ tc i ≤ 122) := by
  unfold kindF kindC
  by_cases hi : i < n
  · rw [if_pos hi]
    by_cases h1 : 97 ≤ tc i ∧ tc i ≤ 122
    · rw [if_pos h1]; exact ⟨fun _ => ⟨hi, h1⟩, fun _ => rfl⟩
    · rw [if_neg h1]
      refine ⟨fun q => ?_, fun q => absurd q.2 h1⟩
      split at q
      · omega
      · split at q
        · omega
        · split at q <;> omega
  · rw [if_neg hi]; exact ⟨fun q => absurd q (by decide), fun q => absurd q.1 hi⟩
theorem kd3 {tc : Nat → Int32} {n i : Nat} : kindF tc n i = 3 ↔ i < n ∧ (48 ≤ tc i ∧ tc i ≤ 57) := by
  unfold kindF kindC
  by_cases hi : i < n
  · rw [if_pos hi]
    by_cases h1 : 97 ≤ tc i ∧ tc i ≤ 122
    · rw [if_pos h1]
      refine ⟨fun q => absurd q (by decide), fun ⟨_, q⟩ => ?_⟩
      have a := Int32.le_iff_toInt_le.mp h1.1
      have b := Int32.le_iff_toInt_le.mp q.2
      have e1 : (97 : Int32).toInt = 97 := rfl
      have e2 : (57 : Int32).toInt = 57 := rfl
      omega
    · rw [if_neg h1]
      by_cases h2 : 48 ≤ tc i ∧ tc i ≤ 57
      · rw [if_pos h2]; exact ⟨fun _ => ⟨hi, h2⟩, fun _ => rfl⟩
      · rw [if_neg h2]
        refine ⟨fun q => ?_, fun q => absurd q.2 h2⟩
        split at q
        · omega
        · split at q <;> omega
  · rw [if_neg hi]; exact ⟨fun q => absurd q (by decide), fun q => absurd q.1 hi⟩
theorem kd4 {tc : Nat → Int32} {n i : Nat} : kindF tc n i = 4 ↔ i < n ∧ tc i = 59 := by
  unfold kindF kindC
  by_cases hi : i < n
  · rw [if_pos hi]
    by_cases h1 : 97 ≤ tc i ∧ tc i ≤ 122
    · rw [if_pos h1]
      refine ⟨fun q => absurd q (by decide), fun ⟨_, q⟩ => ?_⟩
      rw [q] at h1; exact absurd h1 (by decide)
    · rw [if_neg h1]
      by_cases h2 : 48 ≤ tc i ∧ tc i ≤ 57
      · rw [if_pos h2]
        refine ⟨fun q => absurd q (by decide), fun ⟨_, q⟩ => ?_⟩
        rw [q] at h2; exact absurd h2 (by decide)
      · rw [if_neg h2]
        by_cases h3 : tc i = 32 ∨ tc i = 10
        · rw [if_pos h3]
          refine ⟨fun q => absurd q (by decide), fun ⟨_, q⟩ => ?_⟩
          rw [q] at h3; exact absurd h3 (by decide)
        · rw [if_neg h3]
          by_cases h4 : tc i = 59
          · rw [if_pos h4]; exact ⟨fun _ => ⟨hi, h4⟩, fun _ => rfl⟩
          · rw [if_neg h4]; exact ⟨fun q => absurd q (by decide), fun q => absurd q.2 h4⟩
  · rw [if_neg hi]; exact ⟨fun q => absurd q (by decide), fun q => absurd q.1 hi⟩
/-- the byte at a place, or none -/
def chF (tc : Nat → Int32) (n i : Nat) : Int32 := if i < n then tc i else -1
theorem skB_stop {tc : Nat → Int32} {n : Nat} : ∀ (c i : Nat), i + c = n → ¬ kindF tc n (skB tc n c i) = 1 := by
  intro c
  induction c with
  | zero => intro i hi; show ¬ kindF tc n i = 1; rw [kd1]; omega
  | succ c ih =>
    intro i hi
    unfold skB
    split
    · exact ih (i + 1) (by omega)
    · next h => exact h
theorem tkP_stop {tc : Nat → Int32} {n T : Nat} (h : T ≤ n) : ¬ kindF tc n (tkP tc n T) = 1 := skB_stop _ _ (by omega)
theorem tkP_idem {tc : Nat → Int32} {n T : Nat} (h : T ≤ n) : tkP tc n (tkP tc n T) = tkP tc n T := by
  have hs := tkP_stop (tc := tc) h
  have hr := tkP_rg (tp := tc) h
  generalize tkP tc n T = P at *
  unfold tkP
  cases hc : n - P with
  | zero => rfl
  | succ c => unfold skB; rw [if_neg hs]
def tok (tc : Nat → Int32) (n T : Nat) : K3 := advK tc n (0, 0, T)
theorem tok_e {tc : Nat → Int32} {n : Nat} (K : K3) : advK tc n K = tok tc n K.2.2 := rfl
theorem tok_idem {tc : Nat → Int32} {n T : Nat} (h : T ≤ n) : tok tc n (tkP tc n T) = tok tc n T := by
  unfold tok advK tkK tkT tkT1 tkK0
  simp only [tkP_idem h]
theorem n_here {G : SG} {d n T : Nat} {h : AH} {tc : Nat → Int32} {ra fa wr va pl sm gt : Int32} (h5 : TX h ra fa n T wr va pl sm gt) (hT : TpAt h n tc) (hTn : T ≤ n) (hn : n ≤ 400) : SW G mX9_here d 0 0 0 [.ref 75] [] h (fun r h' => r = some (.int (chF tc n (tkP tc n T))) ∧ TX h' ra fa n (tkP tc n T) wr va pl sm gt ∧ SameO h h') := by
  have fin : ∀ (g : AH) (P : Nat), P = tkP tc n T → P ≤ n → TX g ra fa n P wr va pl sm gt → SameO h g → SW G mX9_here d 0 0 52 [.ref 75] [] g (fun r h' => r = some (.int (chF tc n (tkP tc n T))) ∧ TX h' ra fa n (tkP tc n T) wr va pl sm gt ∧ SameO h h') := by
    intro g P hP hPn h5 hO
    subst hP
    obtain ⟨tp, h83, htp⟩ := hT.O hO
    unfold chF
    refine sw_aload_n dX9_here_52 rfl ?_
    refine sw_getf dX9_here_53 fl_X9_154 (h5) rfl ?_
    refine sw_aload_n dX9_here_56 rfl ?_
    refine sw_getf dX9_here_57 fl_X9_148 (h5) rfl ?_
    refine sw_cmpge (tgt := 75) dX9_here_60 (by decide) (fun hq => ?_) (fun hq => ?_)
    · rw [if_neg (by rw [nI_leI (by omega) (by omega)] at hq; omega)]
      refine sw_iconst (v := (-1)) dX9_here_75 (by decide) ?_
      exact sw_ireturn dX9_here_76 rfl rfl (⟨rfl, h5, hO⟩)
    · have hlt : tkP tc n T < n := by
        by_cases z : tkP tc n T < n
        · exact z
        · exact absurd (nI_le (by omega) (by omega)) hq
      rw [if_pos hlt]
      refine sw_aload_n dX9_here_63 rfl ?_
      refine sw_getf dX9_here_64 fl_X9_32 (h5) rfl ?_
      refine sw_aload_n dX9_here_67 rfl ?_
      refine sw_getf dX9_here_68 fl_X9_154 (h5) rfl ?_
      refine sw_iald dX9_here_71 (h83) (vp_in_nI (by omega) (by omega)) (nIat (by omega) (htp _ hlt).1) ?_
      refine sw_goto (tgt := 76) dX9_here_72 (by decide) ?_
      exact sw_ireturn dX9_here_76 rfl rfl (⟨rfl, h5, hO⟩)
  have loop : ∀ (c i : Nat) (g : AH), i + c = n → skB tc n c i = tkP tc n T → TX g ra fa n i wr va pl sm gt → SameO h g → SW G mX9_here d 0 0 0 [.ref 75] [] g (fun r h' => r = some (.int (chF tc n (tkP tc n T))) ∧ TX h' ra fa n (tkP tc n T) wr va pl sm gt ∧ SameO h h') := by
    intro c
    induction c with
    | zero =>
      intro i g hi he h5 hO
      have he : i = tkP tc n T := he
      refine sw_aload_n dX9_here_0 rfl ?_
      refine sw_getf dX9_here_1 fl_X9_154 (h5) rfl ?_
      refine sw_aload_n dX9_here_4 rfl ?_
      refine sw_getf dX9_here_5 fl_X9_148 (h5) rfl ?_
      refine sw_cmpge (tgt := 52) dX9_here_8 (by decide) (fun hc => ?_) (fun hc => ?_)
      · exact fin g i he (by omega) h5 hO
      · exact absurd (nI_le (by omega) (by omega)) hc
    | succ c ih =>
      intro i g hi he h5 hO
      obtain ⟨tp, h83, htp⟩ := hT.O hO
      have hti := (htp i (by omega)).1
      have stop : ¬ (tc i = 32 ∨ tc i = 10) → i = tkP tc n T := by
        intro hno
        rw [skB, if_neg (fun q => hno (kd1.mp q).2)] at he
        exact he
      have more : (tc i = 32 ∨ tc i = 10) → SW G mX9_here d 0 0 39 [.ref 75] [] g (fun r h' => r = some (.int (chF tc n (tkP tc n T))) ∧ TX h' ra fa n (tkP tc n T) wr va pl sm gt ∧ SameO h h') := by
        intro hy
        rw [skB, if_pos (kd1.mpr ⟨by omega, hy⟩)] at he
        refine sw_aload_n dX9_here_39 rfl ?_
        refine sw_dup dX9_here_40 rfl ?_
        refine sw_getf dX9_here_41 fl_X9_154 (h5) rfl ?_
        refine sw_iconst (v := 1) dX9_here_44 (by decide) ?_
        refine sw_iadd dX9_here_45 ?_
        refine sw_puti dX9_here_46 fl_X9_154 (h5) (Nat.le_of_ble_eq_true rfl) (fun g1 z1 e1 o1 => ?_)
        have e1 : TX g1 ra fa n (i + 1) wr va pl sm gt := by rw [nI_1] at e1; exact e1
        refine sw_goto (tgt := 0) dX9_here_49 (by decide) ?_
        exact ih (i + 1) g1 (by omega) he e1 (hO.tr ⟨z1, o1⟩)
      refine sw_aload_n dX9_here_0 rfl ?_
      refine sw_getf dX9_here_1 fl_X9_154 (h5) rfl ?_
      refine sw_aload_n dX9_here_4 rfl ?_
      refine sw_getf dX9_here_5 fl_X9_148 (h5) rfl ?_
      refine sw_cmpge (tgt := 52) dX9_here_8 (by decide) (fun hc => ?_) (fun hc => ?_)
      · exact absurd hc (nI_ge (by omega) (by omega))
      · refine sw_aload_n dX9_here_11 rfl ?_
        refine sw_getf dX9_here_12 fl_X9_32 (h5) rfl ?_
        refine sw_aload_n dX9_here_15 rfl ?_
        refine sw_getf dX9_here_16 fl_X9_154 (h5) rfl ?_
        refine sw_iald dX9_here_19 (h83) (vp_in_nI (by omega) (by omega)) (nIat (by omega) hti) ?_
        refine sw_bipush (v := 32) dX9_here_20 (by decide) ?_
        refine sw_cmpeq (tgt := 39) dX9_here_22 (by decide) (fun q1 => ?_) (fun q1 => ?_)
        · exact more (Or.inl q1)
        · refine sw_aload_n dX9_here_25 rfl ?_
          refine sw_getf dX9_here_26 fl_X9_32 (h5) rfl ?_
          refine sw_aload_n dX9_here_29 rfl ?_
          refine sw_getf dX9_here_30 fl_X9_154 (h5) rfl ?_
          refine sw_iald dX9_here_33 (h83) (vp_in_nI (by omega) (by omega)) (nIat (by omega) hti) ?_
          refine sw_bipush (v := 10) dX9_here_34 (by decide) ?_
          refine sw_cmpne (tgt := 52) dX9_here_36 (by decide) (fun q2 => ?_) (fun q2 => ?_)
          · exact fin g i (stop (fun q => q.elim q1 q2)) (by omega) h5 hO
          · exact more (Or.inr q2)
  exact loop (n - T) T h (by omega) rfl h5 SameO.rf
theorem n_fails {G : SG} {d n T k w : Nat} {h : AH} {ra fa wr va pl sm gt : Int32} (h5 : TX h ra fa n T wr va pl sm gt) : SW G mX9_fails d 0 0 0 [.ref 75, .int (nI k), .int (nI w)] [] h (fun r h' => r = some (.int 0) ∧ TX h' ra fa n T (nI (k + 8 * w)) va pl sm gt ∧ SameO h h') := by
  refine sw_aload_n dX9_fails_0 rfl ?_
  refine sw_iload_n dX9_fails_1 rfl ?_
  refine sw_bipush (v := 8) dX9_fails_2 (by decide) ?_
  refine sw_iload_n dX9_fails_4 rfl ?_
  refine sw_imul dX9_fails_5 ?_
  refine sw_iadd dX9_fails_6 ?_
  refine sw_puti dX9_fails_7 fl_X9_157 (h5) (Nat.le_of_ble_eq_true rfl) (fun g1 z1 e1 o1 => ?_)
  have e1 : TX g1 ra fa n T (nI (k + 8 * w)) va pl sm gt := by
    rw [show nI k + 8 * nI w = nI (k + 8 * w) from by rw [show (8 : Int32) = nI 8 from rfl, pk_mul, nI_add]] at e1
    exact e1
  refine sw_iconst (v := 0) dX9_fails_10 (by decide) ?_
  exact sw_ireturn dX9_fails_11 rfl rfl (⟨rfl, e1, ⟨z1, o1⟩⟩)
theorem n_isWord {G : SG} {d n T : Nat} {h : AH} {tc : Nat → Int32} {ra fa wr va pl sm gt : Int32} (h5 : TX h ra fa n T wr va pl sm gt) (hT : TpAt h n tc) (hTn : T ≤ n) (hn : n ≤ 400) : SW G mX9_isWord (d + 1) 0 0 0 [.ref 75] [] h (fun r h' => r = some (.int (bz (tkK0 tc n T = 2))) ∧ TX h' ra fa n (tkP tc n T) wr va pl sm gt ∧ SameO h h') := by
  refine sw_aload_n dX9_isWord_0 rfl ?_
  refine sw_cv0 dX9_isWord_1 cv_X9_160 (rc_of h5 rfl) (n_here h5 hT hTn hn) (fun r g1 hr => ?_)
  obtain ⟨rfl, h5, hO⟩ := hr
  have hiff : (97 ≤ chF tc n (tkP tc n T) ∧ chF tc n (tkP tc n T) ≤ 122) ↔ tkK0 tc n T = 2 := by
    unfold tkK0
    rw [kd2]
    unfold chF
    by_cases hi : tkP tc n T < n
    · rw [if_pos hi]; exact ⟨fun q => ⟨hi, q⟩, fun q => q.2⟩
    · rw [if_neg hi]; exact ⟨fun q => absurd q.1 (by decide), fun q => absurd q.1 hi⟩
  refine sw_bipush (v := 97) dX9_isWord_4 (by decide) ?_
  refine sw_bipush (v := 122) dX9_isWord_6 (by decide) ?_
  refine sw_pcs3 dX9_isWord_8 cs_X9_39 (n_in) ?_
  exact sw_ireturn dX9_isWord_11 rfl (bz_nar _) (⟨by rw [bz_iff hiff], h5, hO⟩)
/-! a word as a number -/
def wdF (tc : Nat → Int32) : Nat → Nat → Nat → Int64 → Int64
  | 0, _, _, a => a
  | c + 1, i, k, a => wdF tc c (i + 1) (k + 1) (if k < 6 then a * 27 + (tc i).toInt64 - 96 else -1)
theorem n_readWord {G : SG} {d n P : Nat} {h : AH} {tc : Nat → Int32} {ra fa wr va pl sm gt : Int32} (h5 : TX h ra fa n P wr va pl sm gt) (hT : TpAt h n tc) (hPn : P ≤ n) (hn : n ≤ 400) : SW G mX9_readWord (d + 1) 0 0 0 [.ref 75, .retAddr 0, .retAddr 0, .retAddr 0] [] h (fun r h' => r = some (.long (wdF tc (exB tc n 2 (n - P) P - P) P 0 0)) ∧ TX h' ra fa n (exB tc n 2 (n - P) P) wr va (nI P) sm gt ∧ SameO h h') := by
  have fin : ∀ (g : AH) (k E : Nat) (a : Int64), a = wdF tc (exB tc n 2 (n - P) P - P) P 0 0 → E = exB tc n 2 (n - P) P → TX g ra fa n E wr va (nI P) sm gt → SameO h g → SW G mX9_readWord (d + 1) 0 0 91 [.ref 75, .long a, .retAddr 0, .int (nI k)] [] g (fun r h' => r = some (.long (wdF tc (exB tc n 2 (n - P) P - P) P 0 0)) ∧ TX h' ra fa n (exB tc n 2 (n - P) P) wr va (nI P) sm gt ∧ SameO h h') := by
    intro g k E a ha hE h5 hO
    subst ha hE
    refine sw_lload_n dX9_readWord_91 rfl ?_
    exact sw_lreturn dX9_readWord_92 rfl (⟨rfl, h5, hO⟩)
  have loop : ∀ (c i k : Nat) (a : Int64) (g : AH), i + c = n → k ≤ 400 → exB tc n 2 c i = exB tc n 2 (n - P) P → wdF tc (exB tc n 2 c i - i) i k a = wdF tc (exB tc n 2 (n - P) P - P) P 0 0 → k + c ≤ 400 → TX g ra fa n i wr va (nI P) sm gt → SameO h g → SW G mX9_readWord (d + 1) 0 0 12 [.ref 75, .long a, .retAddr 0, .int (nI k)] [] g (fun r h' => r = some (.long (wdF tc (exB tc n 2 (n - P) P - P) P 0 0)) ∧ TX h' ra fa n (exB tc n 2 (n - P) P) wr va (nI P) sm gt ∧ SameO h h') := by
    intro c
    induction c with
    | zero =>
      intro i k a g hi hk hE hw hkc h5 hO
      have hE' : i = exB tc n 2 (n - P) P := hE
      have hw : wdF tc (i - i) i k a = wdF tc (exB tc n 2 (n - P) P - P) P 0 0 := hw
      rw [Nat.sub_self, wdF] at hw
      refine sw_aload_n dX9_readWord_12 rfl ?_
      refine sw_getf dX9_readWord_13 fl_X9_154 (h5) rfl ?_
      refine sw_aload_n dX9_readWord_16 rfl ?_
      refine sw_getf dX9_readWord_17 fl_X9_148 (h5) rfl ?_
      refine sw_cmpge (tgt := 91) dX9_readWord_20 (by decide) (fun hc => ?_) (fun hc => ?_)
      · exact fin g k i a hw hE' h5 hO
      · exact absurd (nI_le (by omega) (by omega)) hc
    | succ c ih =>
      intro i k a g hi hk hE hw hkc h5 hO
      obtain ⟨tp, h83, htp⟩ := hT.O hO
      have hti := (htp i (by omega)).1
      refine sw_aload_n dX9_readWord_12 rfl ?_
      refine sw_getf dX9_readWord_13 fl_X9_154 (h5) rfl ?_
      refine sw_aload_n dX9_readWord_16 rfl ?_
      refine sw_getf dX9_readWord_17 fl_X9_148 (h5) rfl ?_
      refine sw_cmpge (tgt := 91) dX9_readWord_20 (by decide) (fun hc => ?_) (fun hc => ?_)
      · exact absurd hc (nI_ge (by omega) (by omega))
      · refine sw_aload_n dX9_readWord_23 rfl ?_
        refine sw_getf dX9_readWord_24 fl_X9_32 (h5) rfl ?_
        refine sw_aload_n dX9_readWord_27 rfl ?_
        refine sw_getf dX9_readWord_28 fl_X9_154 (h5) rfl ?_
        refine sw_iald dX9_readWord_31 (h83) (vp_in_nI (by omega) (by omega)) (nIat (by omega) hti) ?_
        refine sw_bipush (v := 97) dX9_readWord_32 (by decide) ?_
        refine sw_bipush (v := 122) dX9_readWord_34 (by decide) ?_
        refine sw_pcs3 dX9_readWord_36 cs_X9_39 (n_in) ?_
        refine sw_ifeq (tgt := 91) dX9_readWord_39 (by decide) (fun hl => ?_) (fun hl => ?_)
        · have hl := bz_eq0.mp hl
          have e0 : exB tc n 2 (c + 1) i = i := by rw [exB, if_neg (fun q => hl (kd2.mp q).2)]
          rw [e0, Nat.sub_self, wdF] at hw
          rw [e0] at hE
          exact fin g k i a hw hE h5 hO
        · have hl := bz_eq1.mp hl
          have e0 : exB tc n 2 (c + 1) i = exB tc n 2 c (i + 1) := by rw [exB, if_pos (kd2.mpr ⟨by omega, hl⟩)]
          have hrg := exB_rg (tp := tc) (n := n) (k := 2) c (i + 1)
          rw [e0, show exB tc n 2 c (i + 1) - i = (exB tc n 2 c (i + 1) - (i + 1)) + 1 by omega, wdF] at hw
          rw [e0] at hE
          have step : ∀ x : Int64, x = (if k < 6 then a * 27 + (tc i).toInt64 - 96 else -1) → SW G mX9_readWord (d + 1) 0 0 74 [.ref 75, .long a, .retAddr 0, .int (nI k)] [.long x] g (fun r h' => r = some (.long (wdF tc (exB tc n 2 (n - P) P - P) P 0 0)) ∧ TX h' ra fa n (exB tc n 2 (n - P) P) wr va (nI P) sm gt ∧ SameO h h') := by
            intro x hx
            subst hx
            refine sw_lstore_n dX9_readWord_74 (by decide) rfl ?_
            refine sw_iinc (v := nI (k + 1)) dX9_readWord_75 rfl (nI_1 k) (by decide) rfl ?_
            refine sw_aload_n dX9_readWord_78 rfl ?_
            refine sw_dup dX9_readWord_79 rfl ?_
            refine sw_getf dX9_readWord_80 fl_X9_154 (h5) rfl ?_
            refine sw_iconst (v := 1) dX9_readWord_83 (by decide) ?_
            refine sw_iadd dX9_readWord_84 ?_
            refine sw_puti dX9_readWord_85 fl_X9_154 (h5) (Nat.le_of_ble_eq_true rfl) (fun g1 z1 e1 o1 => ?_)
            have e1 : TX g1 ra fa n (i + 1) wr va (nI P) sm gt := by rw [nI_1] at e1; exact e1
            refine sw_goto (tgt := 12) dX9_readWord_88 (by decide) ?_
            exact ih (i + 1) (k + 1) _ g1 (by omega) (by omega) hE hw (by omega) e1 (hO.tr ⟨z1, o1⟩)
          refine sw_iload_n dX9_readWord_42 rfl ?_
          refine sw_bipush (v := 6) dX9_readWord_43 (by decide) ?_
          refine sw_cmpge (tgt := 71) dX9_readWord_45 (by decide) (fun hk6 => ?_) (fun hk6 => ?_)
          · have hk6 : ¬ k < 6 := by rw [show (6 : Int32) = nI 6 from rfl, nI_leI (by omega) (by omega)] at hk6; omega
            refine sw_ldc2 dX9_readWord_71 w_1008 ?_
            exact step _ (by rw [if_neg hk6])
          · have hk6 : k < 6 := by
              by_cases z : k < 6
              · exact z
              · exact absurd (nI_le (a := 6) (by omega) (by omega)) hk6
            refine sw_lload_n dX9_readWord_48 rfl ?_
            refine sw_ldc2 dX9_readWord_49 w_1006 ?_
            refine sw_lmul dX9_readWord_52 ?_
            refine sw_aload_n dX9_readWord_53 rfl ?_
            refine sw_getf dX9_readWord_54 fl_X9_32 (h5) rfl ?_
            refine sw_aload_n dX9_readWord_57 rfl ?_
            refine sw_getf dX9_readWord_58 fl_X9_154 (h5) rfl ?_
            refine sw_iald dX9_readWord_61 (h83) (vp_in_nI (by omega) (by omega)) (nIat (by omega) hti) ?_
            refine sw_i2l dX9_readWord_62 ?_
            refine sw_ladd dX9_readWord_63 ?_
            refine sw_ldc2 dX9_readWord_64 w_1007 ?_
            refine sw_lsub dX9_readWord_67 ?_
            refine sw_goto (tgt := 74) dX9_readWord_68 (by decide) ?_
            exact step _ (by rw [if_pos hk6])
  refine sw_lconst (v := 0) dX9_readWord_0 (by decide) ?_
  refine sw_lstore_n dX9_readWord_1 (by decide) rfl ?_
  refine sw_iconst (v := 0) dX9_readWord_2 (by decide) ?_
  refine sw_istore_n dX9_readWord_3 (by decide) rfl ?_
  refine sw_aload_n dX9_readWord_4 rfl ?_
  refine sw_aload_n dX9_readWord_5 rfl ?_
  refine sw_getf dX9_readWord_6 fl_X9_154 (h5) rfl ?_
  refine sw_puti dX9_readWord_9 fl_X9_163 (h5) (Nat.le_of_ble_eq_true rfl) (fun g1 z1 e1 o1 => ?_)
  exact loop (n - P) P 0 0 g1 (by omega) (by omega) rfl rfl (by omega) e1 ⟨z1, o1⟩
