/-! words by their letters -/
def dgt (x : Int32) : Nat := x.toNatClampNeg - 96
def vl (l : List Nat) : Nat := l.foldl (fun a d => a * 27 + d) 0
theorem vl_app (l : List Nat) (d : Nat) : vl (l ++ [d]) = vl l * 27 + d := by unfold vl; rw [List.foldl_append]; rfl
theorem vl_inj : ∀ (n : Nat) (l l' : List Nat), l.length ≤ n → (∀ d ∈ l, 1 ≤ d ∧ d ≤ 26) → (∀ d ∈ l', 1 ≤ d ∧ d ≤ 26) → vl l = vl l' → l = l' := by
  intro n
  induction n with
  | zero =>
    intro l l' hn h h' he
    have : l = [] := List.eq_nil_of_length_eq_zero (by omega)
    subst this
    rcases List.eq_nil_or_concat l' with rfl | ⟨r, d, rfl⟩
    · rfl
    · rw [List.concat_eq_append] at *
      rw [vl_app] at he
      have := h' d (by simp)
      have : vl [] = 0 := rfl
      omega
  | succ n ih =>
    intro l l' hn h h' he
    rcases List.eq_nil_or_concat l with rfl | ⟨r, d, rfl⟩
    · rcases List.eq_nil_or_concat l' with rfl | ⟨r', d', rfl⟩
      · rfl
      · rw [List.concat_eq_append] at *
        rw [vl_app] at he
        have := h' d' (by simp)
        have : vl [] = 0 := rfl
        omega
    · rw [List.concat_eq_append] at *
      rcases List.eq_nil_or_concat l' with rfl | ⟨r', d', rfl⟩
      · rw [vl_app] at he
        have := h d (by simp)
        have : vl [] = 0 := rfl
        omega
      · rw [List.concat_eq_append] at *
        rw [vl_app, vl_app] at he
        have hd := h d (by simp)
        have hd' := h' d' (by simp)
        have e1 : d = d' := by omega
        have e2 : vl r = vl r' := by omega
        rw [List.length_append] at hn
        have hn : r.length + 1 ≤ n + 1 := hn
        rw [e1, ih r r' (by omega) (fun x hx => h x (by simp [hx])) (fun x hx => h' x (by simp [hx])) e2]
def dsF (tc : Nat → Int32) : Nat → Nat → List Nat
  | 0, _ => []
  | c + 1, i => dgt (tc i) :: dsF tc c (i + 1)
theorem dsF_len (tc : Nat → Int32) : ∀ c i, (dsF tc c i).length = c := by
  intro c
  induction c with
  | zero => intro i; rfl
  | succ c ih => intro i; unfold dsF; rw [List.length_cons, ih]
theorem dsF_get (tc : Nat → Int32) : ∀ c i j, j < c → (dsF tc c i)[j]? = some (dgt (tc (i + j))) := by
  intro c
  induction c with
  | zero => intro i j h; omega
  | succ c ih =>
    intro i j h
    unfold dsF
    cases j with
    | zero => rfl
    | succ j => rw [List.getElem?_cons_succ, ih (i + 1) j (by omega), show i + 1 + j = i + (j + 1) by omega]
def lett (x : Int32) : Prop := 97 ≤ x ∧ x ≤ 122
theorem lett_N {x : Int32} (h : lett x) : ∃ t, 97 ≤ t ∧ t ≤ 122 ∧ x = nI t := by
  obtain ⟨t, ht, e⟩ := nI_of2 (M := 122) (n := 122) rfl (by
    have := Int32.le_iff_toInt_le.mp h.1
    have e1 : (97 : Int32).toInt = 97 := rfl
    have e0 : (0 : Int32).toInt = 0 := rfl
    rw [Int32.lt_iff_toInt_lt]; omega) h.2
  have h1 := h.1
  rw [e, show (97 : Int32) = nI 97 from rfl, nI_leI (by omega) (by omega)] at h1
  exact ⟨t, h1, ht, e⟩
theorem wd_N {tc : Nat → Int32} : ∀ (c i k a : Nat), k + c ≤ 6 → a < 27 ^ k → (∀ j, i ≤ j → j < i + c → lett (tc j)) → wdF tc c i k (lN a) = lN ((dsF tc c i).foldl (fun a d => a * 27 + d) a) := by
  intro c
  induction c with
  | zero => intro i k a _ _ _; rfl
  | succ c ih =>
    intro i k a hk ha hl
    obtain ⟨t, t1, t2, te⟩ := lett_N (hl i (by omega) (by omega))
    unfold wdF dsF
    rw [if_pos (by omega), List.foldl_cons, te]
    have e : lN a * 27 + (nI t).toInt64 - 96 = lN (a * 27 + dgt (nI t)) := by
      unfold dgt
      rw [nI_clamp (by omega), nI_l (by omega), show (27 : Int64) = lN 27 from rfl, show (96 : Int64) = lN 96 from rfl, lN_mul, lN_add, lN_sub (by omega)]
      congr 1
      omega
    rw [e]
    refine ih (i + 1) (k + 1) _ (by omega) ?_ (fun j x y => hl j (by omega) (by omega))
    unfold dgt
    rw [nI_clamp (by omega), Nat.pow_succ]
    omega
theorem wd_m1 {tc : Nat → Int32} : ∀ (c i k : Nat) (a : Int64), 0 < c → 6 < k + c → wdF tc c i k a = -1 := by
  intro c
  induction c with
  | zero => intro i k a h; omega
  | succ c ih =>
    intro i k a _ hk
    unfold wdF
    cases c with
    | zero => rw [if_neg (by omega)]; rfl
    | succ c => exact ih (i + 1) (k + 1) _ (by omega) (by omega)
theorem cmW_iff {tc : Nat → Int32} {P k : Nat} : ∀ c i, cmW tc P k c i = true ↔ ∀ j, i ≤ j → j < i + c → tc (P + j) = sbc k j := by
  intro c
  induction c with
  | zero => intro i; exact ⟨fun _ j a b => by omega, fun _ => rfl⟩
  | succ c ih =>
    intro i
    unfold cmW
    by_cases h : tc (P + i) = sbc k i
    · rw [if_pos h, ih]
      constructor
      · intro q j a b
        by_cases hj : j = i
        · rw [hj]; exact h
        · exact q j (by omega) (by omega)
      · intro q j a b; exact q j (by omega) (by omega)
    · rw [if_neg h]
      exact ⟨fun q => absurd q Bool.false_ne_true, fun q => absurd (q i (by omega) (by omega)) h⟩
def wIx : List Nat := [0, 1, 2, 3, 6, 8, 10, 12, 14, 16, 18, 20]
def cst (k : Nat) : Nat := vl ((sb k).map dgt)
theorem w_all : ∀ k ∈ wIx, sbl k ≤ 6 ∧ cst k < 2 ^ 31 ∧ ∀ j, j < 6 → j < sbl k → (97 ≤ sbc k j ∧ sbc k j ≤ 122) := by decide +kernel
theorem sb_get {k j : Nat} (h : j < sbl k) : (sb k)[j]? = some (sbc k j) := by
  unfold sbc
  rw [List.getD_eq_getElem?_getD, List.getElem?_eq_getElem (by exact h)]
  rfl
theorem dgt_inj {x y : Int32} (hx : lett x) (hy : lett y) (h : dgt x = dgt y) : x = y := by
  obtain ⟨t, t1, t2, te⟩ := lett_N hx
  obtain ⟨u, u1, u2, ue⟩ := lett_N hy
  unfold dgt at h
  rw [te, ue, nI_clamp (by omega), nI_clamp (by omega)] at h
  rw [te, ue, show t = u by omega]
theorem dgt_rg {x : Int32} (h : lett x) : 1 ≤ dgt x ∧ dgt x ≤ 26 := by
  obtain ⟨t, t1, t2, te⟩ := lett_N h
  unfold dgt
  rw [te, nI_clamp (by omega)]
  omega
/-- the reference's number says which word it is -/
theorem wd_is {tc : Nat → Int32} {P T k : Nat} (hk : k ∈ wIx) (hPT : P < T) (hl : ∀ j, P ≤ j → j < T → lett (tc j)) : wdF tc (T - P) P 0 0 = lN (cst k) ↔ isWd tc (2, P, T) k = true := by
  obtain ⟨w6, wc, wl⟩ := w_all k hk
  unfold isWd
  show _ ↔ (if (2 : Nat) = 2 ∧ T - P = sbl k then cmW tc P k (sbl k) 0 else false) = true
  by_cases hL : T - P ≤ 6
  · have e := wd_N (tc := tc) (T - P) P 0 0 (by omega) (by omega) (fun j a b => hl j a (by omega))
    rw [show (0 : Int64) = lN 0 from rfl, e]
    have hv : (dsF tc (T - P) P).foldl (fun a d => a * 27 + d) 0 = vl (dsF tc (T - P) P) := rfl
    rw [hv]
    have hd1 : ∀ d ∈ dsF tc (T - P) P, 1 ≤ d ∧ d ≤ 26 := by
      intro d hd
      obtain ⟨j, hj⟩ := List.mem_iff_getElem?.mp hd
      have hjl := (List.getElem?_eq_some_iff.mp hj).1
      rw [dsF_len] at hjl
      rw [dsF_get tc _ _ _ hjl] at hj
      rw [← Option.some.inj hj]
      exact dgt_rg (hl _ (by omega) (by omega))
    have hd2 : ∀ d ∈ (sb k).map dgt, 1 ≤ d ∧ d ≤ 26 := by
      intro d hd
      obtain ⟨x, hx, hxe⟩ := List.mem_map.mp hd
      obtain ⟨j, hj⟩ := List.mem_iff_getElem?.mp hx
      have hjl : j < sbl k := (List.getElem?_eq_some_iff.mp hj).1
      rw [sb_get hjl] at hj
      rw [← hxe, ← Option.some.inj hj]
      exact dgt_rg (wl j (by omega) hjl)
    have hbound : vl (dsF tc (T - P) P) < 2 ^ 31 := by
      have : ∀ (c i k a : Nat), k + c ≤ 6 → a < 27 ^ k → (∀ j, i ≤ j → j < i + c → lett (tc j)) → (dsF tc c i).foldl (fun a d => a * 27 + d) a < 27 ^ 6 := by
        intro c
        induction c with
        | zero =>
          intro i k a hk ha _
          exact Nat.lt_of_lt_of_le ha (Nat.pow_le_pow_right (by omega) (by omega))
        | succ c ih =>
          intro i k a hk ha hl
          unfold dsF
          rw [List.foldl_cons]
          refine ih (i + 1) (k + 1) _ (by omega) ?_ (fun j x y => hl j (by omega) (by omega))
          have := dgt_rg (hl i (by omega) (by omega))
          rw [Nat.pow_succ]
          omega
      have := this (T - P) P 0 0 (by omega) (by omega) (fun j a b => hl j a (by omega))
      exact Nat.lt_of_lt_of_le this (by decide)
    rw [lN_eq hbound wc]
    constructor
    · intro he
      have hlist := vl_inj (T - P) _ _ (by rw [dsF_len]; exact Nat.le_refl _) hd1 hd2 he
      have hlen : T - P = sbl k := by
        have := congrArg List.length hlist
        rw [dsF_len, List.length_map] at this
        exact this
      rw [if_pos ⟨rfl, hlen⟩, cmW_iff]
      intro j _ hj
      have hg : (dsF tc (T - P) P)[j]? = ((sb k).map dgt)[j]? := by rw [hlist]
      rw [dsF_get tc _ _ _ (by omega), List.getElem?_map, sb_get (by omega)] at hg
      exact dgt_inj (hl _ (by omega) (by omega)) (wl j (by omega) (by omega)) (Option.some.inj hg)
    · intro he
      by_cases hlen : T - P = sbl k
      · rw [if_pos ⟨rfl, hlen⟩, cmW_iff] at he
        unfold cst
        congr 1
        apply List.ext_getElem?
        intro j
        by_cases hj : j < T - P
        · rw [dsF_get tc _ _ _ hj, List.getElem?_map, sb_get (by omega), he j (by omega) (by omega)]
          rfl
        · rw [List.getElem?_eq_none (by rw [dsF_len]; omega), List.getElem?_eq_none (by rw [List.length_map]; show sbl k ≤ j; omega)]
      · rw [if_neg (fun q => hlen q.2)] at he
        exact absurd he Bool.false_ne_true
  · rw [wd_m1 _ _ _ _ (by omega) (by omega), if_neg (fun q => by omega)]
    constructor
    · intro q
      exfalso
      have := congrArg Int64.toInt q
      rw [lN_toInt wc] at this
      have e1 : (-1 : Int64).toInt = -1 := rfl
      omega
    · intro q; exact absurd q Bool.false_ne_true
theorem exB_all {tc : Nat → Int32} {n k : Nat} : ∀ c i j, i ≤ j → j < exB tc n k c i → kindF tc n j = k := by
  intro c
  induction c with
  | zero => intro i j a b; have b : j < i := b; omega
  | succ c ih =>
    intro i j a b
    unfold exB at b
    split at b
    · next h =>
      by_cases hj : j = i
      · rw [hj]; exact h
      · exact ih (i + 1) j (by omega) b
    · omega
theorem exB_1 {tc : Nat → Int32} {n k P : Nat} (hP : P < n) (h : kindF tc n P = k) : exB tc n k (n - P) P = exB tc n k (n - (P + 1)) (P + 1) := by
  rw [show n - P = (n - (P + 1)) + 1 by omega, exB, if_pos h]
theorem tok_2 {tc : Nat → Int32} {n T : Nat} (h : tkK0 tc n T = 2) : tok tc n T = (2, tkP tc n T, exB tc n 2 (n - tkP tc n T) (tkP tc n T)) ∧ tkP tc n T < exB tc n 2 (n - tkP tc n T) (tkP tc n T) ∧ ∀ j, tkP tc n T ≤ j → j < exB tc n 2 (n - tkP tc n T) (tkP tc n T) → lett (tc j) := by
  have hP := (kd2.mp h).1
  have e : tkT tc n T = exB tc n 2 (n - tkP tc n T) (tkP tc n T) := by
    unfold tkT tkT1
    rw [h, if_pos (Or.inl rfl), if_neg (by decide), exB_1 hP h]
  refine ⟨?_, ?_, fun j a b => (kd2.mp (exB_all _ _ j a b)).2⟩
  · show (tkK tc n T, tkP tc n T, tkT tc n T) = _
    rw [e]
    unfold tkK
    rw [h, if_neg (fun q => absurd q.1 (by decide))]
  · rw [exB_1 hP h]
    have := exB_rg (tp := tc) (n := n) (k := 2) (n - (tkP tc n T + 1)) (tkP tc n T + 1)
    omega
theorem tok_3 {tc : Nat → Int32} {n T : Nat} (h : tkK0 tc n T = 3) : tok tc n T = (if 4 < exB tc n 3 (n - tkP tc n T) (tkP tc n T) - tkP tc n T then 5 else 3, tkP tc n T, exB tc n 3 (n - tkP tc n T) (tkP tc n T)) ∧ tkP tc n T < exB tc n 3 (n - tkP tc n T) (tkP tc n T) := by
  have hP := (kd3.mp h).1
  have e : tkT tc n T = exB tc n 3 (n - tkP tc n T) (tkP tc n T) := by
    unfold tkT tkT1
    rw [h, if_pos (Or.inr rfl), if_neg (by decide), exB_1 hP h]
  refine ⟨?_, ?_⟩
  · show (tkK tc n T, tkP tc n T, tkT tc n T) = _
    rw [e]
    unfold tkK
    rw [h, e]
    by_cases q : 4 < exB tc n 3 (n - tkP tc n T) (tkP tc n T) - tkP tc n T
    · rw [if_pos ⟨rfl, q⟩, if_pos q]
    · rw [if_neg (fun z => q z.2), if_neg q]
  · rw [exB_1 hP h]
    have := exB_rg (tp := tc) (n := n) (k := 3) (n - (tkP tc n T + 1)) (tkP tc n T + 1)
    omega
theorem tok_K {tc : Nat → Int32} {n T : Nat} : (tok tc n T).2.1 = tkP tc n T ∧ ((tok tc n T).1 = 3 → tkK0 tc n T = 3) ∧ ((tok tc n T).1 = 2 ↔ tkK0 tc n T = 2) ∧ ((tok tc n T).1 = 4 ↔ tkK0 tc n T = 4) ∧ ((tok tc n T).1 = 0 ↔ tkK0 tc n T = 0) := by
  show tkP tc n T = tkP tc n T ∧ (tkK tc n T = 3 → _) ∧ (tkK tc n T = 2 ↔ _) ∧ (tkK tc n T = 4 ↔ _) ∧ (tkK tc n T = 0 ↔ _)
  unfold tkK
  by_cases q : tkK0 tc n T = 3 ∧ 4 < tkT tc n T - tkP tc n T
  · rw [if_pos q]
    refine ⟨rfl, fun z => absurd z (by decide), ?_, ?_, ?_⟩ <;> omega
  · rw [if_neg q]
    exact ⟨rfl, fun z => z, Iff.rfl, Iff.rfl, Iff.rfl⟩
theorem tok_4 {tc : Nat → Int32} {n T : Nat} (h : tkK0 tc n T = 4) : (tok tc n T).2.2 = tkP tc n T + 1 := by
  show tkT tc n T = _
  unfold tkT tkT1
  rw [h, if_neg (by decide), if_neg (by decide)]
/-! the end of a statement -/
theorem n_ends {G : SG} {d n T : Nat} {h : AH} {tc : Nat → Int32} {ra fa va pl sm gt : Int32} (h5 : TX h ra fa n T 0 va pl sm gt) (hT : TpAt h n tc) (hTn : T ≤ n) (hn : n ≤ 400) : SW G mX9_ends (d + 1) 0 0 0 [.ref 75] [] h (fun r h' => SameO h h' ∧ (((tok tc n T).1 = 4 ∧ r = some (.int 1) ∧ TX h' ra fa n (tok tc n T).2.2 0 va pl sm gt) ∨ (¬ (tok tc n T).1 = 4 ∧ r = some (.int 0) ∧ ∃ T', TX h' ra fa n T' (flF 0 1 (tok tc n T).2.1) va pl sm gt))) := by
  have hK := tok_K (tc := tc) (n := n) (T := T)
  refine sw_aload_n dX9_ends_0 rfl ?_
  refine sw_cv0 dX9_ends_1 cv_X9_160 (rc_of h5 rfl) (n_here h5 hT hTn hn) (fun r g1 hr => ?_)
  obtain ⟨rfl, h5, hO⟩ := hr
  have hiff : chF tc n (tkP tc n T) = 59 ↔ tkK0 tc n T = 4 := by
    unfold tkK0
    rw [kd4]
    unfold chF
    by_cases hi : tkP tc n T < n
    · rw [if_pos hi]; exact ⟨fun q => ⟨hi, q⟩, fun q => q.2⟩
    · rw [if_neg hi]; exact ⟨fun q => absurd q (by decide), fun q => absurd q.1 hi⟩
  refine sw_bipush (v := 59) dX9_ends_4 (by decide) ?_
  refine sw_cmpeq (tgt := 19) dX9_ends_6 (by decide) (fun hq => ?_) (fun hq => ?_)
  · have h4 := hiff.mp hq
    refine sw_aload_n dX9_ends_19 rfl ?_
    refine sw_dup dX9_ends_20 rfl ?_
    refine sw_getf dX9_ends_21 fl_X9_154 (h5) rfl ?_
    refine sw_iconst (v := 1) dX9_ends_24 (by decide) ?_
    refine sw_iadd dX9_ends_25 ?_
    refine sw_puti dX9_ends_26 fl_X9_154 (h5) (Nat.le_of_ble_eq_true rfl) (fun g2 z2 e2 o2 => ?_)
    have e2 : TX g2 ra fa n (tok tc n T).2.2 0 va pl sm gt := by rw [nI_1, ← tok_4 h4] at e2; exact e2
    refine sw_iconst (v := 1) dX9_ends_29 (by decide) ?_
    exact sw_ireturn dX9_ends_30 rfl rfl (⟨hO.tr ⟨z2, o2⟩, Or.inl ⟨hK.2.2.2.1.mpr h4, rfl, e2⟩⟩)
  · have h4 : ¬ (tok tc n T).1 = 4 := fun q => hq (hiff.mpr (hK.2.2.2.1.mp q))
    refine sw_aload_n dX9_ends_9 rfl ?_
    refine sw_iconst (v := 1) dX9_ends_10 (by decide) ?_
    refine sw_aload_n dX9_ends_11 rfl ?_
    refine sw_getf dX9_ends_12 fl_X9_154 (h5) rfl ?_
    refine sw_cv2 dX9_ends_15 cv_X9_172 (rc_of h5 rfl) (n_fails (k := 1) (w := tkP tc n T) h5) (fun r g2 hr => ?_)
    obtain ⟨rfl, h5, hO2⟩ := hr
    have h5 : TX g2 ra fa n (tkP tc n T) (flF 0 1 (tok tc n T).2.1) va pl sm gt := by unfold flF; rw [if_pos rfl, hK.1]; exact h5
    exact sw_ireturn dX9_ends_18 rfl rfl (⟨hO.tr hO2, Or.inr ⟨h4, rfl, _, h5⟩⟩)
/-! numbers -/
theorem nmF_N {tc : Nat → Int32} : ∀ (c i k a : Nat), k + c ≤ 4 → a < 10 ^ k → (∀ j, i ≤ j → j < i + c → 48 ≤ tc j ∧ tc j ≤ 57) → ∃ b, b < 10 ^ (k + c) ∧ nmF tc c i (nI a) = nI b := by
  intro c
  induction c with
  | zero => intro i k a _ ha _; exact ⟨a, ha, rfl⟩
  | succ c ih =>
    intro i k a hk ha hl
    have h0 := hl i (by omega) (by omega)
    obtain ⟨t, ht, te⟩ := nI_of2 (M := 57) (n := 57) rfl (by
      have := Int32.le_iff_toInt_le.mp h0.1
      have e1 : (48 : Int32).toInt = 48 := rfl
      have e0 : (0 : Int32).toInt = 0 := rfl
      rw [Int32.lt_iff_toInt_lt]; omega) h0.2
    have t48 := h0.1
    rw [te, show (48 : Int32) = nI 48 from rfl, nI_leI (by omega) (by omega)] at t48
    unfold nmF
    rw [te, show nI a * 10 + nI t - 48 = nI (a * 10 + t - 48) by rw [show (10 : Int32) = nI 10 from rfl, show (48 : Int32) = nI 48 from rfl, pk_mul, nI_add, pk_sub (by omega)]]
    obtain ⟨b, hb, e⟩ := ih (i + 1) (k + 1) (a * 10 + t - 48) (by omega) (by rw [Nat.pow_succ]; omega) (fun j x y => hl j (by omega) (by omega))
    exact ⟨b, by rw [show k + (c + 1) = k + 1 + c by omega]; exact hb, e⟩
def nval (tc : Nat → Int32) (n T : Nat) : Int32 := nmF tc ((tok tc n T).2.2 - (tok tc n T).2.1) (tok tc n T).2.1 0
theorem nval_rg {tc : Nat → Int32} {n T : Nat} (h : (tok tc n T).1 = 3) : 0 ≤ nval tc n T ∧ nval tc n T ≤ 9999 := by
  have h3 := tok_K.2.1 h
  obtain ⟨e, hlt⟩ := tok_3 h3
  have hle : ¬ 4 < exB tc n 3 (n - tkP tc n T) (tkP tc n T) - tkP tc n T := by
    intro q
    rw [e, if_pos q] at h
    exact absurd h (show ¬ 5 = 3 by decide)
  unfold nval
  rw [e]
  show 0 ≤ nmF tc (exB tc n 3 (n - tkP tc n T) (tkP tc n T) - tkP tc n T) (tkP tc n T) 0 ∧ nmF tc (exB tc n 3 (n - tkP tc n T) (tkP tc n T) - tkP tc n T) (tkP tc n T) 0 ≤ 9999
  obtain ⟨b, hb, eb⟩ := nmF_N (tc := tc) (exB tc n 3 (n - tkP tc n T) (tkP tc n T) - tkP tc n T) (tkP tc n T) 0 0 (by omega) (by omega) (fun j x y => (kd3.mp (exB_all (n := n) (n - tkP tc n T) (tkP tc n T) j x (by omega))).2)
  have : b < 10 ^ 4 := Nat.lt_of_lt_of_le hb (Nat.pow_le_pow_right (by omega) (by omega))
  rw [show (0 : Int32) = nI 0 from rfl, eb]
  exact ⟨nI_le (by omega) (by omega), nI_le (b := 9999) (by omega) (by omega)⟩
