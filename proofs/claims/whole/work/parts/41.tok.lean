def skB (tp : Nat → Int32) (n : Nat) : Nat → Nat → Nat
  | 0, i => i
  | c + 1, i => if kindF tp n i = 1 then skB tp n c (i + 1) else i
def exB (tp : Nat → Int32) (n k : Nat) : Nat → Nat → Nat
  | 0, i => i
  | c + 1, i => if kindF tp n i = k then exB tp n k c (i + 1) else i
theorem skB_rg {tp : Nat → Int32} {n : Nat} : ∀ (c i : Nat), i ≤ skB tp n c i ∧ skB tp n c i ≤ i + c := by
  intro c
  induction c with
  | zero => intro i; exact ⟨Nat.le_refl _, Nat.le_refl _⟩
  | succ c ih => intro i; unfold skB; split
                 · have := ih (i + 1); omega
                 · omega
theorem exB_rg {tp : Nat → Int32} {n k : Nat} : ∀ (c i : Nat), i ≤ exB tp n k c i ∧ exB tp n k c i ≤ i + c := by
  intro c
  induction c with
  | zero => intro i; exact ⟨Nat.le_refl _, Nat.le_refl _⟩
  | succ c ih => intro i; unfold exB; split
                 · have := ih (i + 1); omega
                 · omega
/-- the next token behind T: its sort, its place, its end -/
def tkP (tp : Nat → Int32) (n T : Nat) : Nat := skB tp n (n - T) T
def tkK0 (tp : Nat → Int32) (n T : Nat) : Nat := kindF tp n (tkP tp n T)
def tkT1 (tp : Nat → Int32) (n T : Nat) : Nat := if tkK0 tp n T = 0 then tkP tp n T else tkP tp n T + 1
def tkT (tp : Nat → Int32) (n T : Nat) : Nat := if tkK0 tp n T = 2 ∨ tkK0 tp n T = 3 then exB tp n (tkK0 tp n T) (n - tkT1 tp n T) (tkT1 tp n T) else tkT1 tp n T
def tkK (tp : Nat → Int32) (n T : Nat) : Nat := if tkK0 tp n T = 3 ∧ 4 < tkT tp n T - tkP tp n T then 5 else tkK0 tp n T
theorem kindC_rg (c : Int32) : 1 ≤ kindC c ∧ kindC c ≤ 5 := by
  unfold kindC
  split
  · omega
  · split
    · omega
    · split
      · omega
      · split <;> omega
theorem kindF_le (tp : Nat → Int32) (n i : Nat) : kindF tp n i ≤ 5 := by
  unfold kindF; split
  · exact (kindC_rg _).2
  · omega
theorem kindF_0 {tp : Nat → Int32} {n i : Nat} : kindF tp n i = 0 ↔ n ≤ i := by
  unfold kindF; split
  · have := (kindC_rg (tp i)).1; omega
  · omega
theorem tkP_rg {tp : Nat → Int32} {n T : Nat} (h : T ≤ n) : T ≤ tkP tp n T ∧ tkP tp n T ≤ n := by
  have := skB_rg (tp := tp) (n := n) (n - T) T
  unfold tkP; omega
theorem tkT1_rg {tp : Nat → Int32} {n T : Nat} (h : T ≤ n) : tkP tp n T ≤ tkT1 tp n T ∧ tkT1 tp n T ≤ n ∧ (tkK0 tp n T ≠ 0 → tkP tp n T < tkT1 tp n T) := by
  have hp := tkP_rg (tp := tp) h
  unfold tkT1
  split
  · next h0 => exact ⟨Nat.le_refl _, hp.2, fun q => absurd h0 q⟩
  · next h0 =>
    have : ¬ n ≤ tkP tp n T := fun q => h0 (kindF_0.mpr q)
    omega
theorem tkT_rg {tp : Nat → Int32} {n T : Nat} (h : T ≤ n) : tkP tp n T ≤ tkT tp n T ∧ tkT tp n T ≤ n ∧ (tkK0 tp n T ≠ 0 → tkP tp n T < tkT tp n T) := by
  have hp := tkT1_rg (tp := tp) h
  unfold tkT
  split
  · next h0 =>
    have := exB_rg (tp := tp) (n := n) (k := tkK0 tp n T) (n - tkT1 tp n T) (tkT1 tp n T)
    have hq := hp.2.2
    omega
  · exact hp
def SameL (h h' : AH) : Prop := h'.length = h.length ∧ ∀ j, j ≠ 73 → h'[j]? = h[j]?
theorem SameL.rf {h : AH} : SameL h h := ⟨rfl, fun _ _ => rfl⟩
theorem SameL.tr {h h1 h2 : AH} (a : SameL h h1) (b : SameL h1 h2) : SameL h h2 := ⟨b.1.trans a.1, fun j hj => (b.2 j hj).trans (a.2 j hj)⟩
def tF (fo : Int32) (vb kd P T : Nat) : List Value := [.int fo, .ref (1000 + vb), .ref 74, .ref 1, .int (nI kd), .int (nI P), .int (nI T)]
theorem m_advance {G : SG} {d n vb kd P T : Nat} {h : AH} {tp nm : Nat → Int32} {fo : Int32} (hT : TapeAt h tp n) (hL : TelAt h fo vb kd P T nm) (hTn : T ≤ n) : SW G mX5_advance (d + 1) 0 0 0 [.ref 73] [] h (fun r h' => r = none ∧ TelAt h' fo vb (tkK tp n T) (tkP tp n T) (tkT tp n T) nm ∧ SameL h h') := by
  have hn := hT.2.2
  obtain ⟨h73, h74, hvb⟩ := hL
  have hP := tkP_rg (tp := tp) hTn
  have hT1 := tkT1_rg (tp := tp) hTn
  have hT2 := tkT_rg (tp := tp) hTn
  have hKe : tkK0 tp n T = kindF tp n (tkP tp n T) := rfl
  have hK5 := kindF_le tp n (tkP tp n T)
  rw [← hKe] at hK5
  -- the end: too long a number
  have fin : ∀ g : AH, g[73]? = some (.inr (4, tF fo vb (tkK0 tp n T) (tkP tp n T) (tkT tp n T))) → SameL h g → SW G mX5_advance (d + 1) 0 0 141 [.ref 73] [] g (fun r h' => r = none ∧ TelAt h' fo vb (tkK tp n T) (tkP tp n T) (tkT tp n T) nm ∧ SameL h h') := by
    intro g hg hS
    refine sw_aload_n dX5_advance_141 rfl ?_
    refine sw_getf dX5_advance_142 fl_X5_28 (hg) rfl ?_
    refine sw_iconst (v := 3) dX5_advance_145 (by decide) ?_
    refine sw_cmpne (tgt := 167) dX5_advance_146 (by decide) (fun h3 => ?_) (fun h3 => ?_)
    · have hk : tkK tp n T = tkK0 tp n T := by unfold tkK; rw [if_neg (fun q => h3 (by rw [q.1]; rfl))]
      exact sw_return dX5_advance_167 rfl (⟨rfl, ⟨by rw [hk]; exact hg, (hS.2 _ (by omega)).trans h74, hvb⟩, hS⟩)
    · have h3' : tkK0 tp n T = 3 := (nI_eq (by omega) (by omega)).mp h3
      have hsub : nI (tkT tp n T) - nI (tkP tp n T) = nI (tkT tp n T - tkP tp n T) := by
        have := nI_add (tkT tp n T - tkP tp n T) (tkP tp n T)
        rw [show tkT tp n T - tkP tp n T + tkP tp n T = tkT tp n T by omega] at this
        rw [← this]
        exact Int32.add_sub_cancel _ _
      refine sw_aload_n dX5_advance_149 rfl ?_
      refine sw_getf dX5_advance_150 fl_X5_34 (hg) rfl ?_
      refine sw_aload_n dX5_advance_153 rfl ?_
      refine sw_getf dX5_advance_154 fl_X5_31 (hg) rfl ?_
      refine sw_isub dX5_advance_157 ?_
      rw [hsub]
      refine sw_iconst (v := 4) dX5_advance_158 (by decide) ?_
      refine sw_cmple (tgt := 167) dX5_advance_159 (by decide) (fun h4 => ?_) (fun h4 => ?_)
      · have h4' : tkT tp n T - tkP tp n T ≤ 4 := (nI_leI (b := 4) (by omega) (by omega)).mp h4
        have hk : tkK tp n T = tkK0 tp n T := by unfold tkK; rw [if_neg (by omega)]
        exact sw_return dX5_advance_167 rfl (⟨rfl, ⟨by rw [hk]; exact hg, (hS.2 _ (by omega)).trans h74, hvb⟩, hS⟩)
      · have h4' : ¬ tkT tp n T - tkP tp n T ≤ 4 := fun q => h4 (nI_le (b := 4) q (by omega))
        have hk : tkK tp n T = 5 := by unfold tkK; rw [if_pos (by omega)]
        refine sw_aload_n dX5_advance_162 rfl ?_
        refine sw_iconst (v := 5) dX5_advance_163 (by decide) ?_
        refine sw_puti dX5_advance_164 fl_X5_28 (hg) (Nat.le_of_ble_eq_true rfl) (fun g1 z1 e1 o1 => ?_)
        exact sw_return dX5_advance_167 rfl (⟨rfl, ⟨by rw [hk]; exact e1, (o1 _ (by omega)).trans ((hS.2 _ (by omega)).trans h74), hvb⟩, hS.tr ⟨z1, o1⟩⟩)
  -- the token's end
  have ext : ∀ (c i : Nat) (g : AH), i + c = n → (tkK0 tp n T = 2 ∨ tkK0 tp n T = 3) → exB tp n (tkK0 tp n T) c i = tkT tp n T → g[73]? = some (.inr (4, tF fo vb (tkK0 tp n T) (tkP tp n T) i)) → SameL h g → SW G mX5_advance (d + 1) 0 0 99 [.ref 73] [] g (fun r h' => r = none ∧ TelAt h' fo vb (tkK tp n T) (tkP tp n T) (tkT tp n T) nm ∧ SameL h h') := by
    intro c
    induction c with
    | zero =>
      intro i g hi hk he hg hS
      refine sw_aload_n dX5_advance_99 rfl ?_
      refine sw_getf dX5_advance_100 fl_X5_34 (hg) rfl ?_
      refine sw_aload_n dX5_advance_103 rfl ?_
      refine sw_getf dX5_advance_104 fl_X5_37 (hg) rfl ?_
      refine sw_getf dX5_advance_107 fl_X5_107 ((hS.2 1 (by omega)).trans hT.1) rfl ?_
      refine sw_cmpge (tgt := 141) dX5_advance_110 (by decide) (fun hl => ?_) (fun hl => ?_)
      · exact fin g (by rw [exB] at he; rw [← he]; exact hg) hS
      · exact absurd (nI_le (by omega) (by omega)) hl
    | succ c ih =>
      intro i g hi hk he hg hS
      have hTg := hT.kept (h' := g) (fun j a b => hS.2 j (by omega))
      refine sw_aload_n dX5_advance_99 rfl ?_
      refine sw_getf dX5_advance_100 fl_X5_34 (hg) rfl ?_
      refine sw_aload_n dX5_advance_103 rfl ?_
      refine sw_getf dX5_advance_104 fl_X5_37 (hg) rfl ?_
      refine sw_getf dX5_advance_107 fl_X5_107 (hTg.1) rfl ?_
      refine sw_cmpge (tgt := 141) dX5_advance_110 (by decide) (fun hl => ?_) (fun hl => ?_)
      · exact absurd hl (nI_ge (by omega) (by omega))
      · refine sw_aload_n dX5_advance_113 rfl ?_
        refine sw_aload_n dX5_advance_114 rfl ?_
        refine sw_getf dX5_advance_115 fl_X5_34 (hg) rfl ?_
        refine sw_cv1 dX5_advance_118 cv_X5_134 (rc_of hg rfl) (m_kindAt hTg hg rfl (show i < 2 ^ 31 by omega)) (fun r g1 hr => ?_)
        obtain ⟨rfl, rfl⟩ := hr
        have hk5 := kindF_le tp n i
        refine sw_aload_n dX5_advance_121 rfl ?_
        refine sw_getf dX5_advance_122 fl_X5_28 (hg) rfl ?_
        refine sw_cmpne (tgt := 141) dX5_advance_125 (by decide) (fun hq => ?_) (fun hq => ?_)
        · have : ¬ kindF tp n i = tkK0 tp n T := fun z => hq (by rw [z])
          exact fin g1 (by rw [exB, if_neg this] at he; rw [← he]; exact hg) hS
        · have : kindF tp n i = tkK0 tp n T := (nI_eq (by omega) (by omega)).mp hq
          refine sw_aload_n dX5_advance_128 rfl ?_
          refine sw_dup dX5_advance_129 rfl ?_
          refine sw_getf dX5_advance_130 fl_X5_34 (hg) rfl ?_
          refine sw_iconst (v := 1) dX5_advance_133 (by decide) ?_
          refine sw_iadd dX5_advance_134 ?_
          refine sw_puti dX5_advance_135 fl_X5_34 (hg) (Nat.le_of_ble_eq_true rfl) (fun g2 z2 e2 o2 => ?_)
          rw [nI_1] at e2
          refine sw_goto (tgt := 99) dX5_advance_138 (by decide) ?_
          exact ih (i + 1) g2 (by omega) hk (by rw [exB, if_pos this] at he; exact he) e2 (hS.tr ⟨z2, o2⟩)
  -- behind the blanks
  have mid : ∀ g : AH, g[73]? = some (.inr (4, tF fo vb kd (tkP tp n T) T)) → SameL h g → SW G mX5_advance (d + 1) 0 0 47 [.ref 73] [] g (fun r h' => r = none ∧ TelAt h' fo vb (tkK tp n T) (tkP tp n T) (tkT tp n T) nm ∧ SameL h h') := by
    intro g hg hS
    have hTg := hT.kept (h' := g) (fun j a b => hS.2 j (by omega))
    refine sw_aload_n dX5_advance_47 rfl ?_
    refine sw_aload_n dX5_advance_48 rfl ?_
    refine sw_aload_n dX5_advance_49 rfl ?_
    refine sw_getf dX5_advance_50 fl_X5_31 (hg) rfl ?_
    refine sw_cv1 dX5_advance_53 cv_X5_134 (rc_of hg rfl) (m_kindAt hTg hg rfl (show tkP tp n T < 2 ^ 31 by omega)) (fun r g1 hr => ?_)
    obtain ⟨rfl, rfl⟩ := hr
    rw [← hKe]
    refine sw_puti dX5_advance_56 fl_X5_28 (hg) (Nat.le_of_ble_eq_true rfl) (fun g2 z2 e2 o2 => ?_)
    have e2' : g2[73]? = some (.inr (4, tF fo vb (tkK0 tp n T) (tkP tp n T) T)) := e2
    have hS2 := hS.tr (show SameL g1 g2 from ⟨z2, o2⟩)
    have go : ∀ (x : Nat), x = tkT1 tp n T → SW G mX5_advance (d + 1) 0 0 80 [.ref 73] [.int (nI x), .ref 73] g2 (fun r h' => r = none ∧ TelAt h' fo vb (tkK tp n T) (tkP tp n T) (tkT tp n T) nm ∧ SameL h h') := by
      intro x hx
      subst hx
      refine sw_puti dX5_advance_80 fl_X5_34 (e2') (Nat.le_of_ble_eq_true rfl) (fun g3 z3 e3 o3 => ?_)
      have e3' : g3[73]? = some (.inr (4, tF fo vb (tkK0 tp n T) (tkP tp n T) (tkT1 tp n T))) := e3
      have hS3 := hS2.tr (show SameL g2 g3 from ⟨z3, o3⟩)
      refine sw_aload_n dX5_advance_83 rfl ?_
      refine sw_getf dX5_advance_84 fl_X5_28 (e3') rfl ?_
      refine sw_iconst (v := 2) dX5_advance_87 (by decide) ?_
      refine sw_cmpeq (tgt := 99) dX5_advance_88 (by decide) (fun hw => ?_) (fun hw => ?_)
      · have hk : tkK0 tp n T = 2 := (nI_eq (b := 2) (by omega) (by omega)).mp hw
        exact ext (n - tkT1 tp n T) (tkT1 tp n T) g3 (by omega) (Or.inl hk) (by unfold tkT; rw [if_pos (Or.inl hk)]) e3' hS3
      · refine sw_aload_n dX5_advance_91 rfl ?_
        refine sw_getf dX5_advance_92 fl_X5_28 (e3') rfl ?_
        refine sw_iconst (v := 3) dX5_advance_95 (by decide) ?_
        refine sw_cmpne (tgt := 141) dX5_advance_96 (by decide) (fun hnb => ?_) (fun hnb => ?_)
        · have hk : ¬ (tkK0 tp n T = 2 ∨ tkK0 tp n T = 3) := fun q => q.elim (fun z => hw (by rw [z]; rfl)) (fun z => hnb (by rw [z]; rfl))
          exact fin g3 (by unfold tkT; rw [if_neg hk]; exact e3') hS3
        · have hk : tkK0 tp n T = 3 := (nI_eq (b := 3) (by omega) (by omega)).mp hnb
          exact ext (n - tkT1 tp n T) (tkT1 tp n T) g3 (by omega) (Or.inr hk) (by unfold tkT; rw [if_pos (Or.inr hk)]) e3' hS3
    refine sw_aload_n dX5_advance_59 rfl ?_
    refine sw_aload_n dX5_advance_60 rfl ?_
    refine sw_getf dX5_advance_61 fl_X5_28 (e2') rfl ?_
    refine sw_ifne (tgt := 74) dX5_advance_64 (by decide) (fun h0 => ?_) (fun h0 => ?_)
    · have hk : ¬ tkK0 tp n T = 0 := fun z => h0 (by rw [z]; rfl)
      refine sw_aload_n dX5_advance_74 rfl ?_
      refine sw_getf dX5_advance_75 fl_X5_31 (e2') rfl ?_
      refine sw_iconst (v := 1) dX5_advance_78 (by decide) ?_
      refine sw_iadd dX5_advance_79 ?_
      rw [nI_1]
      exact go (tkP tp n T + 1) (by unfold tkT1; rw [if_neg hk])
    · have hk : tkK0 tp n T = 0 := (nI_eq (b := 0) (by omega) (by omega)).mp h0
      refine sw_aload_n dX5_advance_67 rfl ?_
      refine sw_getf dX5_advance_68 fl_X5_31 (e2') rfl ?_
      refine sw_goto (tgt := 80) dX5_advance_71 (by decide) ?_
      exact go (tkP tp n T) (by unfold tkT1; rw [if_pos hk])
  have skp : ∀ (c i : Nat) (g : AH), i + c = n → skB tp n c i = tkP tp n T → g[73]? = some (.inr (4, tF fo vb kd i T)) → SameL h g → SW G mX5_advance (d + 1) 0 0 8 [.ref 73] [] g (fun r h' => r = none ∧ TelAt h' fo vb (tkK tp n T) (tkP tp n T) (tkT tp n T) nm ∧ SameL h h') := by
    intro c
    induction c with
    | zero =>
      intro i g hi he hg hS
      refine sw_aload_n dX5_advance_8 rfl ?_
      refine sw_getf dX5_advance_9 fl_X5_31 (hg) rfl ?_
      refine sw_aload_n dX5_advance_12 rfl ?_
      refine sw_getf dX5_advance_13 fl_X5_37 (hg) rfl ?_
      refine sw_getf dX5_advance_16 fl_X5_107 ((hS.2 1 (by omega)).trans hT.1) rfl ?_
      refine sw_cmpge (tgt := 47) dX5_advance_19 (by decide) (fun hl => ?_) (fun hl => ?_)
      · exact mid g (by rw [skB] at he; rw [← he]; exact hg) hS
      · exact absurd (nI_le (by omega) (by omega)) hl
    | succ c ih =>
      intro i g hi he hg hS
      have hTg := hT.kept (h' := g) (fun j a b => hS.2 j (by omega))
      refine sw_aload_n dX5_advance_8 rfl ?_
      refine sw_getf dX5_advance_9 fl_X5_31 (hg) rfl ?_
      refine sw_aload_n dX5_advance_12 rfl ?_
      refine sw_getf dX5_advance_13 fl_X5_37 (hg) rfl ?_
      refine sw_getf dX5_advance_16 fl_X5_107 (hTg.1) rfl ?_
      refine sw_cmpge (tgt := 47) dX5_advance_19 (by decide) (fun hl => ?_) (fun hl => ?_)
      · exact absurd hl (nI_ge (by omega) (by omega))
      · refine sw_aload_n dX5_advance_22 rfl ?_
        refine sw_aload_n dX5_advance_23 rfl ?_
        refine sw_getf dX5_advance_24 fl_X5_31 (hg) rfl ?_
        refine sw_cv1 dX5_advance_27 cv_X5_134 (rc_of hg rfl) (m_kindAt hTg hg rfl (show i < 2 ^ 31 by omega)) (fun r g1 hr => ?_)
        obtain ⟨rfl, rfl⟩ := hr
        have hk5 := kindF_le tp n i
        refine sw_iconst (v := 1) dX5_advance_30 (by decide) ?_
        refine sw_cmpne (tgt := 47) dX5_advance_31 (by decide) (fun hq => ?_) (fun hq => ?_)
        · have : ¬ kindF tp n i = 1 := fun z => hq (by rw [z]; rfl)
          exact mid g1 (by rw [skB, if_neg this] at he; rw [← he]; exact hg) hS
        · have : kindF tp n i = 1 := (nI_eq (b := 1) (by omega) (by omega)).mp hq
          refine sw_aload_n dX5_advance_34 rfl ?_
          refine sw_dup dX5_advance_35 rfl ?_
          refine sw_getf dX5_advance_36 fl_X5_31 (hg) rfl ?_
          refine sw_iconst (v := 1) dX5_advance_39 (by decide) ?_
          refine sw_iadd dX5_advance_40 ?_
          refine sw_puti dX5_advance_41 fl_X5_31 (hg) (Nat.le_of_ble_eq_true rfl) (fun g2 z2 e2 o2 => ?_)
          rw [nI_1] at e2
          refine sw_goto (tgt := 8) dX5_advance_44 (by decide) ?_
          exact ih (i + 1) g2 (by omega) (by rw [skB, if_pos this] at he; exact he) e2 (hS.tr ⟨z2, o2⟩)
  refine sw_aload_n dX5_advance_0 rfl ?_
  refine sw_aload_n dX5_advance_1 rfl ?_
  refine sw_getf dX5_advance_2 fl_X5_34 (h73) rfl ?_
  refine sw_puti dX5_advance_5 fl_X5_31 (h73) (Nat.le_of_ble_eq_true rfl) (fun g1 z1 e1 o1 => ?_)
  exact skp (n - T) T g1 (by omega) rfl e1 ⟨z1, o1⟩
