/-! the reference: its object, its row -/
abbrev MV : Type := Int32 × Int32 × Int32 × Int32 × Int32 × Int32 × Int32 × Int32 × Int32
def mFs (v : MV) : List Value := [.int v.1, .ref 76, .ref 77, .ref 78, .ref 79, .ref 80, .ref 81, .ref 82, .ref 83, .int v.2.1, .int v.2.2.1, .int v.2.2.2.1, .int v.2.2.2.2.1, .int v.2.2.2.2.2.1, .int v.2.2.2.2.2.2.1, .int v.2.2.2.2.2.2.2.1, .int v.2.2.2.2.2.2.2.2]
def MoAt (h : AH) (v : MV) : Prop := h[75]? = some (.inr (7, mFs v))
def RoAt (h : AH) (f : Nat → Int32) : Prop := h[76]? = some (.inl (0, 641, .inl f))
theorem ix3 {a c g b : Nat} : nI a + nI c * nI g + nI b = nI (a + c * g + b) := by rw [pk_mul, nI_add, nI_add]
theorem ix2 {a b : Nat} : nI a + nI b = nI (a + b) := nI_add a b
theorem wi {x : Int32} {k n : Nat} (e : x = nI k) (hk : k < n) (hn : n < 2 ^ 31) : vp_in x n := by rw [e]; exact vp_in_nI hk hn
theorem wv {α : Type} {f : Nat → α} {x : Int32} {k : Nat} {v : α} (e : x = nI k) (hk : k < 2 ^ 31) (hv : f k = v) : f x.toNatClampNeg = v := by rw [e, nI_clamp hk]; exact hv
theorem wu {f : Nat → Int32} {x v : Int32} {k : Nat} (e : x = nI k) (hk : k < 2 ^ 31) : upd f x.toNatClampNeg v = upd f k v := by rw [e, nI_clamp hk]
theorem n_in {G : SG} {d : Nat} {h : AH} {v a b : Int32} : SW G mX9_in d 0 0 0 [.int v, .int a, .int b] [] h (fun r h' => r = some (.int (bz (a ≤ v ∧ v ≤ b))) ∧ h' = h) := by
  refine sw_iload_n dX9_in_0 rfl ?_
  refine sw_iload_n dX9_in_1 rfl ?_
  refine sw_cmplt (tgt := 14) dX9_in_2 (by decide) (fun h1 => ?_) (fun h1 => ?_)
  · rw [bz_0 (fun q => by have a := Int32.le_iff_toInt_le.mp q.1; have b := Int32.lt_iff_toInt_lt.mp h1; omega)]
    refine sw_iconst (v := 0) dX9_in_14 (by decide) ?_
    exact sw_ireturn dX9_in_15 rfl rfl (⟨rfl, rfl⟩)
  · have h1 : a ≤ v := by
      have := mt Int32.lt_iff_toInt_lt.mpr h1
      exact Int32.le_iff_toInt_le.mpr (by omega)
    refine sw_iload_n dX9_in_5 rfl ?_
    refine sw_iload_n dX9_in_6 rfl ?_
    refine sw_cmpgt (tgt := 14) dX9_in_7 (by decide) (fun h2 => ?_) (fun h2 => ?_)
    · rw [bz_0 (fun q => by have a := Int32.le_iff_toInt_le.mp q.2; have b := Int32.lt_iff_toInt_lt.mp h2; omega)]
      refine sw_iconst (v := 0) dX9_in_14 (by decide) ?_
      exact sw_ireturn dX9_in_15 rfl rfl (⟨rfl, rfl⟩)
    · have h2 : v ≤ b := by
        have := mt Int32.lt_iff_toInt_lt.mpr h2
        exact Int32.le_iff_toInt_le.mpr (by omega)
      rw [bz_1 ⟨h1, h2⟩]
      refine sw_iconst (v := 1) dX9_in_10 (by decide) ?_
      refine sw_goto (tgt := 15) dX9_in_11 (by decide) ?_
      exact sw_ireturn dX9_in_15 rfl rfl (⟨rfl, rfl⟩)
theorem le_pred {b : Int32} {n : Nat} (hn : n < 2 ^ 30) : b ≤ nI n - 1 ↔ b < nI n := by
  rw [Int32.le_iff_toInt_le, Int32.lt_iff_toInt_lt, show nI n - 1 = nI n - nI 1 from rfl, pk_sub_toInt hn (by omega), nI_toInt (by omega)]
  omega
theorem bz_iff {p q : Prop} [Decidable p] [Decidable q] (h : p ↔ q) : bz p = bz q := by
  unfold bz
  by_cases hp : p
  · rw [if_pos hp, if_pos (h.mp hp)]
  · rw [if_neg hp, if_neg (fun x => hp (h.mpr x))]
theorem n_isGate {G : SG} {d : Nat} {h : AH} {v : Int32} : SW G mX9_isGate (d + 1) 0 0 0 [.int v] [] h (fun r h' => r = some (.int (bz (0 ≤ v ∧ v ≤ 3))) ∧ h' = h) := by
  refine sw_iload_n dX9_isGate_0 rfl ?_
  refine sw_iconst (v := 0) dX9_isGate_1 (by decide) ?_
  refine sw_iconst (v := 3) dX9_isGate_2 (by decide) ?_
  refine sw_pcs3 dX9_isGate_3 cs_X9_39 (n_in) ?_
  exact sw_ireturn dX9_isGate_6 rfl (bz_nar _) (⟨rfl, rfl⟩)
theorem n_isFlow {G : SG} {d : Nat} {h : AH} {v : Int32} : SW G mX9_isFlow (d + 1) 0 0 0 [.int v] [] h (fun r h' => r = some (.int (bz (0 ≤ v ∧ v ≤ 9999))) ∧ h' = h) := by
  refine sw_iload_n dX9_isFlow_0 rfl ?_
  refine sw_iconst (v := 0) dX9_isFlow_1 (by decide) ?_
  refine sw_sipush (v := 9999) dX9_isFlow_2 (by decide) ?_
  refine sw_pcs3 dX9_isFlow_5 cs_X9_39 (n_in) ?_
  exact sw_ireturn dX9_isFlow_8 rfl (bz_nar _) (⟨rfl, rfl⟩)
theorem n_isBack {G : SG} {d n : Nat} {h : AH} {v : MV} {f : Nat → Int32} {x : Int32} (h5 : MoAt h v) (h6 : RoAt h f) (h1 : f 1 = nI n) (hn : n ≤ 97) : SW G mX9_isBack (d + 1) 0 0 0 [.ref 75, .int x] [] h (fun r h' => r = some (.int (bz (0 ≤ x ∧ x < nI n))) ∧ h' = h) := by
  refine sw_iload_n dX9_isBack_0 rfl ?_
  refine sw_iconst (v := 0) dX9_isBack_1 (by decide) ?_
  refine sw_aload_n dX9_isBack_2 rfl ?_
  refine sw_getf dX9_isBack_3 fl_X9_7 (h5) rfl ?_
  refine sw_iconst (v := 1) dX9_isBack_6 (by decide) ?_
  refine sw_iald dX9_isBack_7 (h6) (vp_in_nI (n := 1) (by omega) (by omega)) (h1) ?_
  refine sw_iconst (v := 1) dX9_isBack_8 (by decide) ?_
  refine sw_isub dX9_isBack_9 ?_
  refine sw_pcs3 dX9_isBack_10 cs_X9_39 (n_in) ?_
  exact sw_ireturn dX9_isBack_13 rfl (bz_nar _) (⟨by rw [bz_iff (and_congr_right fun _ => le_pred (by omega))], rfl⟩)
theorem n_isSlot {G : SG} {d n : Nat} {h : AH} {v : MV} {f : Nat → Int32} {x : Int32} (h5 : MoAt h v) (h6 : RoAt h f) (h1 : f 0 = nI n) (hn : n ≤ 97) : SW G mX9_isSlot (d + 1) 0 0 0 [.ref 75, .int x] [] h (fun r h' => r = some (.int (bz (0 ≤ x ∧ x < nI n))) ∧ h' = h) := by
  refine sw_iload_n dX9_isSlot_0 rfl ?_
  refine sw_iconst (v := 0) dX9_isSlot_1 (by decide) ?_
  refine sw_aload_n dX9_isSlot_2 rfl ?_
  refine sw_getf dX9_isSlot_3 fl_X9_7 (h5) rfl ?_
  refine sw_iconst (v := 0) dX9_isSlot_6 (by decide) ?_
  refine sw_iald dX9_isSlot_7 (h6) (vp_in_nI (n := 0) (by omega) (by omega)) (h1) ?_
  refine sw_iconst (v := 1) dX9_isSlot_8 (by decide) ?_
  refine sw_isub dX9_isSlot_9 ?_
  refine sw_pcs3 dX9_isSlot_10 cs_X9_39 (n_in) ?_
  exact sw_ireturn dX9_isSlot_13 rfl (bz_nar _) (⟨by rw [bz_iff (and_congr_right fun _ => le_pred (by omega))], rfl⟩)
theorem n_mix {G : SG} {d : Nat} {h : AH} {v a : Int32} : SW G mX9_mix d 0 0 0 [.int v, .int a, .retAddr 0] [] h (fun r h' => r = some (.int (mixI v a)) ∧ h' = h) := by
  refine sw_iload_n dX9_mix_0 rfl ?_
  refine sw_iload_n dX9_mix_1 rfl ?_
  refine sw_imul dX9_mix_2 ?_
  refine sw_istore_n dX9_mix_3 (by decide) rfl ?_
  refine sw_iload_n dX9_mix_4 rfl ?_
  refine sw_iload_n dX9_mix_5 rfl ?_
  refine sw_bipush (v := 15) dX9_mix_6 (by decide) ?_
  refine sw_iushr dX9_mix_8 ?_
  refine sw_ixor dX9_mix_9 ?_
  refine sw_istore_n dX9_mix_10 (by decide) rfl ?_
  refine sw_iload_n dX9_mix_11 rfl ?_
  refine sw_ldc dX9_mix_12 w_951 ?_
  refine sw_imul dX9_mix_14 ?_
  refine sw_istore_n dX9_mix_15 (by decide) rfl ?_
  refine sw_iload_n dX9_mix_16 rfl ?_
  refine sw_iload_n dX9_mix_17 rfl ?_
  refine sw_bipush (v := 13) dX9_mix_18 (by decide) ?_
  refine sw_iushr dX9_mix_20 ?_
  refine sw_ixor dX9_mix_21 ?_
  refine sw_istore_n dX9_mix_22 (by decide) rfl ?_
  refine sw_iload_n dX9_mix_23 rfl ?_
  refine sw_iconst (v := 1) dX9_mix_24 (by decide) ?_
  refine sw_iushr dX9_mix_25 ?_
  exact sw_ireturn dX9_mix_26 rfl rfl (⟨rfl, rfl⟩)
theorem n_stateOf {G : SG} {d g b : Nat} {h : AH} {v : MV} {f : Nat → Int32} (h5 : MoAt h v) (h6 : RoAt h f) (hg : g < 4) (hb : b < 8) : SW G mX9_stateOf d 0 0 0 [.ref 75, .int (nI g), .int (nI b)] [] h (fun r h' => r = some (.int (f (21 + 8 * g + b))) ∧ h' = h) := by
  refine sw_aload_n dX9_stateOf_0 rfl ?_
  refine sw_getf dX9_stateOf_1 fl_X9_7 (h5) rfl ?_
  refine sw_bipush (v := 21) dX9_stateOf_4 (by decide) ?_
  refine sw_bipush (v := 8) dX9_stateOf_6 (by decide) ?_
  refine sw_iload_n dX9_stateOf_8 rfl ?_
  refine sw_imul dX9_stateOf_9 ?_
  refine sw_iadd dX9_stateOf_10 ?_
  refine sw_iload_n dX9_stateOf_11 rfl ?_
  refine sw_iadd dX9_stateOf_12 ?_
  refine sw_iald dX9_stateOf_13 (h6) (wi (ix3 (a := 21) (c := 8)) (by omega) (by omega)) (wv (ix3 (a := 21) (c := 8)) (by omega) rfl) ?_
  exact sw_ireturn dX9_stateOf_14 rfl rfl (⟨rfl, rfl⟩)
theorem n_flowOf {G : SG} {d g b : Nat} {h : AH} {v : MV} {f : Nat → Int32} (h5 : MoAt h v) (h6 : RoAt h f) (hg : g < 4) (hb : b < 16) : SW G mX9_flowOf d 0 0 0 [.ref 75, .int (nI g), .int (nI b)] [] h (fun r h' => r = some (.int (f (57 + 16 * g + b))) ∧ h' = h) := by
  refine sw_aload_n dX9_flowOf_0 rfl ?_
  refine sw_getf dX9_flowOf_1 fl_X9_7 (h5) rfl ?_
  refine sw_bipush (v := 57) dX9_flowOf_4 (by decide) ?_
  refine sw_bipush (v := 16) dX9_flowOf_6 (by decide) ?_
  refine sw_iload_n dX9_flowOf_8 rfl ?_
  refine sw_imul dX9_flowOf_9 ?_
  refine sw_iadd dX9_flowOf_10 ?_
  refine sw_iload_n dX9_flowOf_11 rfl ?_
  refine sw_iadd dX9_flowOf_12 ?_
  refine sw_iald dX9_flowOf_13 (h6) (wi (ix3 (a := 57) (c := 16)) (by omega) (by omega)) (wv (ix3 (a := 57) (c := 16)) (by omega) rfl) ?_
  exact sw_ireturn dX9_flowOf_14 rfl rfl (⟨rfl, rfl⟩)
theorem n_toOf {G : SG} {d g b : Nat} {h : AH} {v : MV} {f : Nat → Int32} (h5 : MoAt h v) (h6 : RoAt h f) (hg : g < 4) (hb : b < 16) : SW G mX9_toOf d 0 0 0 [.ref 75, .int (nI g), .int (nI b)] [] h (fun r h' => r = some (.int (f (121 + 16 * g + b))) ∧ h' = h) := by
  refine sw_aload_n dX9_toOf_0 rfl ?_
  refine sw_getf dX9_toOf_1 fl_X9_7 (h5) rfl ?_
  refine sw_bipush (v := 121) dX9_toOf_4 (by decide) ?_
  refine sw_bipush (v := 16) dX9_toOf_6 (by decide) ?_
  refine sw_iload_n dX9_toOf_8 rfl ?_
  refine sw_imul dX9_toOf_9 ?_
  refine sw_iadd dX9_toOf_10 ?_
  refine sw_iload_n dX9_toOf_11 rfl ?_
  refine sw_iadd dX9_toOf_12 ?_
  refine sw_iald dX9_toOf_13 (h6) (wi (ix3 (a := 121) (c := 16)) (by omega) (by omega)) (wv (ix3 (a := 121) (c := 16)) (by omega) rfl) ?_
  exact sw_ireturn dX9_toOf_14 rfl rfl (⟨rfl, rfl⟩)
theorem n_whenOf {G : SG} {d g b : Nat} {h : AH} {v : MV} {f : Nat → Int32} (h5 : MoAt h v) (h6 : RoAt h f) (hg : g < 4) (hb : b < 16) : SW G mX9_whenOf d 0 0 0 [.ref 75, .int (nI g), .int (nI b)] [] h (fun r h' => r = some (.int (f (185 + 16 * g + b))) ∧ h' = h) := by
  refine sw_aload_n dX9_whenOf_0 rfl ?_
  refine sw_getf dX9_whenOf_1 fl_X9_7 (h5) rfl ?_
  refine sw_sipush (v := 185) dX9_whenOf_4 (by decide) ?_
  refine sw_bipush (v := 16) dX9_whenOf_7 (by decide) ?_
  refine sw_iload_n dX9_whenOf_9 rfl ?_
  refine sw_imul dX9_whenOf_10 ?_
  refine sw_iadd dX9_whenOf_11 ?_
  refine sw_iload_n dX9_whenOf_12 rfl ?_
  refine sw_iadd dX9_whenOf_13 ?_
  refine sw_iald dX9_whenOf_14 (h6) (wi (ix3 (a := 185) (c := 16)) (by omega) (by omega)) (wv (ix3 (a := 185) (c := 16)) (by omega) rfl) ?_
  exact sw_ireturn dX9_whenOf_15 rfl rfl (⟨rfl, rfl⟩)
theorem n_offset {G : SG} {d b p : Nat} {h : AH} {v : MV} {f : Nat → Int32} (h5 : MoAt h v) (h6 : RoAt h f) (hb : b < 8) (hp : 0 < p) (hp2 : p ≤ 97) : SW G mX9_offset (d + 1) 0 0 0 [.ref 75, .int (nI b), .int (nI p)] [] h (fun r h' => r = some (.int (nI (offN (f (5 + b)) p))) ∧ h' = h) := by
  refine sw_aload_n dX9_offset_0 rfl ?_
  refine sw_getf dX9_offset_1 fl_X9_7 (h5) rfl ?_
  refine sw_iconst (v := 5) dX9_offset_4 (by decide) ?_
  refine sw_iload_n dX9_offset_5 rfl ?_
  refine sw_iadd dX9_offset_6 ?_
  refine sw_iald dX9_offset_7 (h6) (wi (ix2 (a := 5)) (by omega) (by omega)) (wv (ix2 (a := 5)) (by omega) rfl) ?_
  refine sw_ldc dX9_offset_8 w_947 ?_
  refine sw_pcs2 dX9_offset_10 cs_X9_45 (n_mix) ?_
  refine sw_iload_n dX9_offset_13 rfl ?_
  refine sw_irem dX9_offset_14 (nI_ne0 hp (by omega)) ?_
  exact sw_ireturn dX9_offset_15 rfl rfl (⟨by rw [mix_nI, pk_rem (mixN_lt _ _) hp (by omega)]; rfl, rfl⟩)
theorem n_skip {G : SG} {d b p : Nat} {h : AH} {v : MV} {f : Nat → Int32} (h5 : MoAt h v) (h6 : RoAt h f) (hb : b < 8) (hp : 1 < p) (hp2 : p ≤ 97) : SW G mX9_skip (d + 1) 0 0 0 [.ref 75, .int (nI b), .int (nI p)] [] h (fun r h' => r = some (.int (nI (skpN (f (5 + b)) p))) ∧ h' = h) := by
  have e : nI p - 1 = nI (p - 1) := nI_p (by omega)
  refine sw_aload_n dX9_skip_0 rfl ?_
  refine sw_getf dX9_skip_1 fl_X9_7 (h5) rfl ?_
  refine sw_iconst (v := 5) dX9_skip_4 (by decide) ?_
  refine sw_iload_n dX9_skip_5 rfl ?_
  refine sw_iadd dX9_skip_6 ?_
  refine sw_iald dX9_skip_7 (h6) (wi (ix2 (a := 5)) (by omega) (by omega)) (wv (ix2 (a := 5)) (by omega) rfl) ?_
  refine sw_ldc dX9_skip_8 w_956 ?_
  refine sw_pcs2 dX9_skip_10 cs_X9_45 (n_mix) ?_
  refine sw_iload_n dX9_skip_13 rfl ?_
  refine sw_iconst (v := 1) dX9_skip_14 (by decide) ?_
  refine sw_isub dX9_skip_15 ?_
  refine sw_irem dX9_skip_16 ((by rw [e]; exact nI_ne0 (by omega) (by omega))) ?_
  refine sw_iconst (v := 1) dX9_skip_17 (by decide) ?_
  refine sw_iadd dX9_skip_18 ?_
  exact sw_ireturn dX9_skip_19 rfl rfl (⟨by rw [e, mix_nI, pk_rem (mixN_lt _ _) (by omega) (by omega), nI_1]; rfl, rfl⟩)
theorem n_slotOf {G : SG} {d p : Nat} {h : AH} {v : MV} {f : Nat → Int32} {x : Int32} (h5 : MoAt h v) (h6 : RoAt h f) (h0 : f 0 = nI p) (hp : 0 < p) (hp2 : p ≤ 97) : SW G mX9_slotOf (d + 1) 0 0 0 [.ref 75, .int x] [] h (fun r h' => r = some (.int (nI (slfN x p))) ∧ h' = h) := by
  refine sw_iload_n dX9_slotOf_0 rfl ?_
  refine sw_ldc dX9_slotOf_1 w_961 ?_
  refine sw_pcs2 dX9_slotOf_3 cs_X9_45 (n_mix) ?_
  refine sw_aload_n dX9_slotOf_6 rfl ?_
  refine sw_getf dX9_slotOf_7 fl_X9_7 (h5) rfl ?_
  refine sw_iconst (v := 0) dX9_slotOf_10 (by decide) ?_
  refine sw_iald dX9_slotOf_11 (h6) (vp_in_nI (n := 0) (by omega) (by omega)) (h0) ?_
  refine sw_irem dX9_slotOf_12 (nI_ne0 hp (by omega)) ?_
  exact sw_ireturn dX9_slotOf_13 rfl rfl (⟨by rw [mix_nI, pk_rem (mixN_lt _ _) hp (by omega)]; rfl, rfl⟩)
/-! primes -/
def prmF (n : Nat) : Nat → Nat → Bool
  | 0, _ => true
  | c + 1, k => if n < k * k then true else if n % k = 0 then false else prmF n c (k + 1)
theorem prm_all : ((List.range 98).all fun n => decide (n < 3) || decide (prmF n 10 2 = isSz (nI n))) = true := by decide +kernel
theorem n_isPrime {G : SG} {d : Nat} {h : AH} {x : Int32} : SW G mX9_isPrime d 0 0 0 [.int x, .retAddr 0] [] h (fun r h' => r = some (.int (bz (isSz x = true))) ∧ h' = h) := by
  have no : ¬ (3 ≤ x ∧ x ≤ 97) → ¬ isSz x = true := by
    intro hn hs
    obtain ⟨p, hp, e⟩ := isSz_pos hs
    have := szN_rg p hp
    refine hn ⟨?_, ?_⟩
    · rw [e]; exact nI_le (a := 3) (by omega) (by omega)
    · rw [e]; exact nI_le (b := 97) (by omega) (by omega)
  refine sw_iload_n dX9_isPrime_0 rfl ?_
  refine sw_iconst (v := 3) dX9_isPrime_1 (by decide) ?_
  refine sw_cmplt (tgt := 11) dX9_isPrime_2 (by decide) (fun h1 => ?_) (fun h1 => ?_)
  · rw [bz_0 (no (fun q => by have a := Int32.le_iff_toInt_le.mp q.1; have b := Int32.lt_iff_toInt_lt.mp h1; omega))]
    refine sw_iconst (v := 0) dX9_isPrime_11 (by decide) ?_
    exact sw_ireturn dX9_isPrime_12 rfl rfl (⟨rfl, rfl⟩)
  · have h1 : 3 ≤ x := by
      have := mt Int32.lt_iff_toInt_lt.mpr h1
      exact Int32.le_iff_toInt_le.mpr (by omega)
    refine sw_iload_n dX9_isPrime_5 rfl ?_
    refine sw_bipush (v := 97) dX9_isPrime_6 (by decide) ?_
    refine sw_cmple (tgt := 13) dX9_isPrime_8 (by decide) (fun h2 => ?_) (fun h2 => ?_)
    · obtain ⟨n, hn, rfl⟩ := nI_of2 (M := 97) (n := 97) rfl (by
        have := Int32.le_iff_toInt_le.mp h1
        have e3 : (3 : Int32).toInt = 3 := rfl
        have e0 : (0 : Int32).toInt = 0 := rfl
        rw [Int32.lt_iff_toInt_lt]; omega) h2
      have hn3 : 3 ≤ n := (nI_leI (a := 3) (by omega) (by omega)).mp h1
      have hall := List.all_eq_true.mp prm_all n (List.mem_range.mpr (by omega))
      rw [decide_eq_false (by omega), Bool.false_or, decide_eq_true_eq] at hall
      rw [← hall]
      have loop : ∀ (c k : Nat), k + c = 12 → 2 ≤ k → SW G mX9_isPrime d 0 0 15 [.int (nI n), .int (nI k)] [] h (fun r h' => r = some (.int (bz (prmF n c k = true))) ∧ h' = h) := by
        intro c
        induction c with
        | zero =>
          intro k hk _
          have : k = 12 := by omega
          subst this
          refine sw_iload_n dX9_isPrime_15 rfl ?_
          refine sw_iload_n dX9_isPrime_16 rfl ?_
          refine sw_imul dX9_isPrime_17 ?_
          refine sw_iload_n dX9_isPrime_18 rfl ?_
          refine sw_cmpgt (tgt := 36) dX9_isPrime_19 (by decide) (fun hc => ?_) (fun hc => ?_)
          · refine sw_iconst (v := 1) dX9_isPrime_36 (by decide) ?_
            exact sw_ireturn dX9_isPrime_37 rfl rfl (⟨rfl, rfl⟩)
          · exact absurd (nI_lt (b := 144) (by omega) (by omega)) hc
        | succ c ih =>
          intro k hk hk2
          have hkk : k * k < 200 := by
            have : k ≤ 12 := by omega
            have := Nat.mul_le_mul this this
            omega
          refine sw_iload_n dX9_isPrime_15 rfl ?_
          refine sw_iload_n dX9_isPrime_16 rfl ?_
          refine sw_imul dX9_isPrime_17 ?_
          refine sw_iload_n dX9_isPrime_18 rfl ?_
          rw [show nI k * nI k = nI (k * k) from pk_mul k k]
          refine sw_cmpgt (tgt := 36) dX9_isPrime_19 (by decide) (fun hc => ?_) (fun hc => ?_)
          · rw [prmF, if_pos ((nI_ltI (by omega) (by omega)).mp hc)]
            refine sw_iconst (v := 1) dX9_isPrime_36 (by decide) ?_
            exact sw_ireturn dX9_isPrime_37 rfl rfl (⟨rfl, rfl⟩)
          · have hc : ¬ n < k * k := fun q => hc ((nI_ltI (by omega) (by omega)).mpr q)
            rw [prmF, if_neg hc]
            refine sw_iload_n dX9_isPrime_22 rfl ?_
            refine sw_iload_n dX9_isPrime_23 rfl ?_
            refine sw_irem dX9_isPrime_24 (nI_ne0 (by omega) (by omega)) ?_
            rw [pk_rem (by omega) (by omega) (by omega)]
            have hmod := Nat.mod_lt n (show 0 < k by omega)
            refine sw_ifne (tgt := 30) dX9_isPrime_25 (by decide) (fun h3 => ?_) (fun h3 => ?_)
            · have h3 : ¬ n % k = 0 := fun q => h3 (by rw [q]; rfl)
              rw [if_neg h3]
              refine sw_iinc (v := nI (k + 1)) dX9_isPrime_30 rfl (nI_1 k) (by decide) rfl ?_
              refine sw_goto (tgt := 15) dX9_isPrime_33 (by decide) ?_
              exact ih (k + 1) (by omega) (by omega)
            · have h3 : n % k = 0 := (nI_eq (b := 0) (by omega) (by omega)).mp h3
              rw [if_pos h3]
              refine sw_iconst (v := 0) dX9_isPrime_28 (by decide) ?_
              exact sw_ireturn dX9_isPrime_29 rfl rfl (⟨rfl, rfl⟩)
      refine sw_iconst (v := 2) dX9_isPrime_13 (by decide) ?_
      refine sw_istore_n dX9_isPrime_14 (by decide) rfl ?_
      exact loop 10 2 (by omega) (by omega)
    · rw [bz_0 (no (fun q => h2 q.2))]
      refine sw_iconst (v := 0) dX9_isPrime_11 (by decide) ?_
      exact sw_ireturn dX9_isPrime_12 rfl rfl (⟨rfl, rfl⟩)
