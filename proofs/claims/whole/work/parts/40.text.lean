/-! the class's texts: constants by their places -/
def strL : List (List Int32) := [[117, 112], [100, 111, 119, 110], [100, 114, 97, 105, 110], [97, 108, 108], [110, 111, 32, 115, 117, 99, 104, 32, 98, 97, 99, 107, 101, 110, 100], [110, 111, 116, 104, 105, 110, 103, 32, 115, 117, 99, 104, 32, 111, 102, 32, 97, 32, 98, 97, 99, 107, 101, 110, 100], [115, 105, 122, 101], [83], [98, 97, 99, 107], [75, 87], [119, 101, 105, 103, 104], [66, 87], [115, 101, 101], [71, 66, 72], [116, 105, 99, 107], [84], [114, 111, 111, 109], [82], [97, 103, 101], [65], [112, 97, 99, 107], [71, 70]]
def sb (k : Nat) : List Int32 := strL.getD k []
def sbl (k : Nat) : Nat := (sb k).length
def sbc (k i : Nat) : Int32 := (sb k).getD i 0
theorem sb_val : ∀ k, k < 22 → (1010 + k, "java/lang/String", "value", "[B", Value.ref (1040 + k)) ∈ ro_fd := by decide +kernel
theorem sb_cod : ∀ k, k < 22 → (1010 + k, "java/lang/String", "coder", "B", Value.int 0) ∈ ro_fd := by decide +kernel
theorem sb_arr : ∀ k, k < 22 → (1040 + k, FieldType.byte, sbl k, (sb k).map Value.int) ∈ ro_ar := by decide +kernel
theorem sb_cls : ∀ k, k < 22 → (1010 + k, "java/lang/String") ∈ ro_cl := by decide +kernel
theorem sb_shr : ∀ k, k < 22 → Int32.ofNat (sbl k) >>> ((0 : Int32) &&& 31) = nI (sbl k) ∧ sbl k < 32 := by decide +kernel
theorem sb_chr : ∀ k, k < 22 → ∀ i, i < sbl k → ((sbc k i &&& 255).toUInt32 % 65536).toInt32 = sbc k i ∧ narrow .char (.int (sbc k i)) = .int (sbc k i) ∧ ((sb k).map Value.int).getD i .null = .int (sbc k i) := by decide +kernel
theorem cmp1 : ("java/lang/String", "COMPACT_STRINGS", "Z", Value.int 1) ∈ ro_st := by decide +kernel
theorem m_coder {G : SG} {d k : Nat} {h : AH} (hk : k < 22) : SW G mJ0_coder_7d493 d 0 0 0 [.ref (1010 + k)] [] h (fun r h' => r = some (.int 0) ∧ h' = h) := by
  refine sw_gets (v := .int 1) dJ0_coder_7d493_0 w_291 (by decide +kernel) ?_
  refine sw_ifeq (tgt := 13) dJ0_coder_7d493_3 (by decide) (fun hc => ?_) (fun hc => ?_)
  · exact absurd hc (by decide)
  · refine sw_aload_n dJ0_coder_7d493_6 rfl ?_
    refine sw_getr (v := .int 0) dJ0_coder_7d493_7 w_1183 (sb_cod k hk) ?_
    refine sw_goto (tgt := 14) dJ0_coder_7d493_10 (by decide) ?_
    exact sw_ireturn dJ0_coder_7d493_14 rfl rfl (⟨rfl, rfl⟩)
theorem m_length {G : SG} {d k : Nat} {h : AH} (hk : k < 22) : SW G mJ0_length_8abf5 (d + 1) 0 0 0 [.ref (1010 + k)] [] h (fun r h' => r = some (.int (nI (sbl k))) ∧ h' = h) := by
  refine sw_aload_n dJ0_length_8abf5_0 rfl ?_
  refine sw_getr (v := .ref (1040 + k)) dJ0_length_8abf5_1 w_1182 (sb_val k hk) ?_
  refine sw_alenR (v := Int32.ofNat (sbl k)) dJ0_length_8abf5_4 (sb_arr k hk) rfl ?_
  refine sw_aload_n dJ0_length_8abf5_5 rfl ?_
  refine sw_cv0 dJ0_length_8abf5_6 cv_J0_335 (Or.inr (sb_cls k hk)) (m_coder hk) (fun r g hp => ?_)
  obtain ⟨rfl, rfl⟩ := hp
  refine sw_ishr dJ0_length_8abf5_9 ?_
  rw [(sb_shr k hk).1]
  exact sw_ireturn dJ0_length_8abf5_10 rfl rfl (⟨rfl, rfl⟩)
theorem m_isLatin1 {G : SG} {d k : Nat} {h : AH} (hk : k < 22) : SW G mJ0_isLatin1_aae02 d 0 0 0 [.ref (1010 + k)] [] h (fun r h' => r = some (.int 1) ∧ h' = h) := by
  refine sw_gets (v := .int 1) dJ0_isLatin1_aae02_0 w_291 (by decide +kernel) ?_
  refine sw_ifeq (tgt := 17) dJ0_isLatin1_aae02_3 (by decide) (fun hc => ?_) (fun hc => ?_)
  · exact absurd hc (by decide)
  · refine sw_aload_n dJ0_isLatin1_aae02_6 rfl ?_
    refine sw_getr (v := .int 0) dJ0_isLatin1_aae02_7 w_1183 (sb_cod k hk) ?_
    refine sw_ifne (tgt := 17) dJ0_isLatin1_aae02_10 (by decide) (fun hb => ?_) (fun hb => ?_)
    · exact absurd rfl hb
    · refine sw_iconst (v := 1) dJ0_isLatin1_aae02_13 (by decide) ?_
      refine sw_goto (tgt := 18) dJ0_isLatin1_aae02_14 (by decide) ?_
      exact sw_ireturn dJ0_isLatin1_aae02_18 rfl rfl (⟨rfl, rfl⟩)
theorem m_pcheck {G : SG} {d i n : Nat} {h : AH} (hi : i < n) (hn : n < 2 ^ 31) : SW G mJ3_checkIndex_8e157 d 0 0 0 [.int (nI i), .int (nI n), .retAddr 7] [] h (fun r h' => r = some (.int (nI i)) ∧ h' = h) := by
  refine sw_iload_n dJ3_checkIndex_8e157_0 rfl ?_
  refine sw_iflt (tgt := 9) dJ3_checkIndex_8e157_1 (by decide) (fun hc => ?_) (fun hc => ?_)
  · exact absurd hc (nI_pos (by omega))
  · refine sw_iload_n dJ3_checkIndex_8e157_4 rfl ?_
    refine sw_iload_n dJ3_checkIndex_8e157_5 rfl ?_
    refine sw_cmplt (tgt := 16) dJ3_checkIndex_8e157_6 (by decide) (fun hb => ?_) (fun hb => ?_)
    · refine sw_iload_n dJ3_checkIndex_8e157_16 rfl ?_
      exact sw_ireturn dJ3_checkIndex_8e157_17 rfl rfl (⟨rfl, rfl⟩)
    · exact absurd (nI_lt hi hn) hb
theorem m_scheck {G : SG} {d i n : Nat} {h : AH} (hi : i < n) (hn : n < 2 ^ 31) : SW G mJ0_checkIndex_df160 (d + 1) 0 0 0 [.int (nI i), .int (nI n)] [] h (fun r h' => r = none ∧ h' = h) := by
  refine sw_iload_n dJ0_checkIndex_df160_0 rfl ?_
  refine sw_iload_n dJ0_checkIndex_df160_1 rfl ?_
  refine sw_gets (v := .retAddr 7) dJ0_checkIndex_df160_2 w_307 (by decide +kernel) ?_
  refine sw_cs3 dJ0_checkIndex_df160_5 cs_J0_1059 (m_pcheck hi hn) (fun r g hp => ?_)
  obtain ⟨rfl, rfl⟩ := hp
  refine sw_pop dJ0_checkIndex_df160_8 rfl ?_
  exact sw_return dJ0_checkIndex_df160_9 rfl (⟨rfl, rfl⟩)
theorem m_lcharAt {G : SG} {d k i : Nat} {h : AH} (hk : k < 22) (hi : i < sbl k) : SW G mJ1_charAt_3b067 (d + 2) 0 0 0 [.ref (1040 + k), .int (nI i)] [] h (fun r h' => r = some (.int (sbc k i)) ∧ h' = h) := by
  have h32 := (sb_shr k hk).2
  obtain ⟨c1, c2, c3⟩ := sb_chr k hk i hi
  refine sw_iload_n dJ1_charAt_3b067_0 rfl ?_
  refine sw_aload_n dJ1_charAt_3b067_1 rfl ?_
  refine sw_alenR (v := nI (sbl k)) dJ1_charAt_3b067_2 (sb_arr k hk) rfl ?_
  refine sw_cs2 dJ1_charAt_3b067_3 cs_J1_9 (m_scheck hi (by omega)) (fun r g hp => ?_)
  obtain ⟨rfl, rfl⟩ := hp
  refine sw_aload_n dJ1_charAt_3b067_6 rfl ?_
  refine sw_iload_n dJ1_charAt_3b067_7 rfl ?_
  refine sw_baldR (v := .int (sbc k i)) dJ1_charAt_3b067_8 (sb_arr k hk) (vp_in_nI hi (by omega)) (nIat (f := fun i => ((sb k).map Value.int).getD i .null) (by omega) c3) ?_
  refine sw_sipush (v := 255) dJ1_charAt_3b067_9 (by decide) ?_
  refine sw_iand dJ1_charAt_3b067_12 ?_
  refine sw_i2c dJ1_charAt_3b067_13 ?_
  rw [c1]
  exact sw_ireturn dJ1_charAt_3b067_14 rfl (c2) (⟨rfl, rfl⟩)
theorem m_charAt {G : SG} {d k i : Nat} {h : AH} (hk : k < 22) (hi : i < sbl k) : SW G mJ0_charAt_5068e (d + 3) 0 0 0 [.ref (1010 + k), .int (nI i)] [] h (fun r h' => r = some (.int (sbc k i)) ∧ h' = h) := by
  refine sw_aload_n dJ0_charAt_5068e_0 rfl ?_
  refine sw_cv0 dJ0_charAt_5068e_1 cv_J0_492 (Or.inr (sb_cls k hk)) (m_isLatin1 hk) (fun r g hp => ?_)
  obtain ⟨rfl, rfl⟩ := hp
  refine sw_ifeq (tgt := 16) dJ0_charAt_5068e_4 (by decide) (fun hc => ?_) (fun hc => ?_)
  · exact absurd hc (by decide)
  · refine sw_aload_n dJ0_charAt_5068e_7 rfl ?_
    refine sw_getr (v := .ref (1040 + k)) dJ0_charAt_5068e_8 w_1182 (sb_val k hk) ?_
    refine sw_iload_n dJ0_charAt_5068e_11 rfl ?_
    refine sw_cs2 dJ0_charAt_5068e_12 cs_J0_495 (m_lcharAt hk hi) (fun r g2 hp => ?_)
    obtain ⟨rfl, rfl⟩ := hp
    exact sw_ireturn dJ0_charAt_5068e_15 rfl ((sb_chr k hk i hi).2.1) (⟨rfl, rfl⟩)
theorem vb_wrd : ∀ v, v < 8 → (1000 + v, "FlowGates$Verb", "word", "Ljava/lang/String;", Value.ref (1010 + (6 + 2 * v))) ∈ ro_fd := by decide +kernel
theorem vb_srt : ∀ v, v < 8 → (1000 + v, "FlowGates$Verb", "sorts", "Ljava/lang/String;", Value.ref (1010 + (7 + 2 * v))) ∈ ro_fd := by decide +kernel
theorem vb_ord : ∀ v, v < 8 → (1000 + v, "java/lang/Enum", "ordinal", "I", Value.int (nI v)) ∈ ro_fd := by decide +kernel
theorem vb_cls : ∀ v, v < 8 → (1000 + v, "FlowGates$Verb") ∈ ro_cl := by decide +kernel
def vbs : List Value := [.ref 1000, .ref 1001, .ref 1002, .ref 1003, .ref 1004, .ref 1005, .ref 1006, .ref 1007]
theorem vbs_mem : (1080, FieldType.object "FlowGates$Verb", 8, vbs) ∈ ro_ar := List.mem_of_getElem? (i := 0) rfl
theorem vbs_at : ∀ v, v < 8 → vbs.getD v .null = .ref (1000 + v) := by decide +kernel
def swm : List Value := [.int 1, .int 2, .int 3, .int 4, .int 5, .int 6, .int 7, .int 0]
theorem swm_mem : (1082, FieldType.int, 8, swm) ∈ ro_ar := List.mem_of_getElem? (i := 2) rfl
theorem swm_at : ∀ v, v < 8 → swm.getD v .null = .int (if v = 7 then 0 else nI (v + 1)) := by decide +kernel
theorem m_ordinal {G : SG} {d v : Nat} {h : AH} (hv : v < 8) : SW G mJx29ce0_ordinal_8abf5 d 0 0 0 [.ref (1000 + v)] [] h (fun r h' => r = some (.int (nI v)) ∧ h' = h) := by
  refine sw_aload_n dJx29ce0_ordinal_8abf5_0 rfl ?_
  refine sw_getr (v := .int (nI v)) dJx29ce0_ordinal_8abf5_1 w_1185 (vb_ord v hv) ?_
  exact sw_ireturn dJx29ce0_ordinal_8abf5_4 rfl rfl (⟨rfl, rfl⟩)
/-! the tape, the teller -/
def TapeAt (h : AH) (tp : Nat → Int32) (n : Nat) : Prop := h[1]? = some (.inr (3, [.ref 2, .int (nI n)])) ∧ h[2]? = some (.inl (0, 400, .inl tp)) ∧ n ≤ 400
theorem TapeAt.kept {h h' : AH} {tp : Nat → Int32} {n : Nat} (H : TapeAt h tp n) (hk : ∀ j, 1 ≤ j → j < 3 → h'[j]? = h[j]?) : TapeAt h' tp n := ⟨(hk _ (by omega) (by omega)).trans H.1, (hk _ (by omega) (by omega)).trans H.2.1, H.2.2⟩
def TelAt (h : AH) (fo : Int32) (vb kd P T : Nat) (nm : Nat → Int32) : Prop := h[73]? = some (.inr (4, [.int fo, .ref (1000 + vb), .ref 74, .ref 1, .int (nI kd), .int (nI P), .int (nI T)])) ∧ h[74]? = some (.inl (0, 3, .inl nm)) ∧ vb < 8
/-- what sort a byte is of -/
def kindC (c : Int32) : Nat := if 97 ≤ c ∧ c ≤ 122 then 2 else if 48 ≤ c ∧ c ≤ 57 then 3 else if c = 32 ∨ c = 10 then 1 else if c = 59 then 4 else 5
def kindF (tp : Nat → Int32) (n i : Nat) : Nat := if i < n then kindC (tp i) else 0
theorem m_kindAt {G : SG} {d n i : Nat} {h : AH} {tp : Nat → Int32} {fs : List Value} (hT : TapeAt h tp n) (h73 : h[73]? = some (.inr (4, fs))) (hf : fs[3]? = some (.ref 1)) (hi : i < 2 ^ 31) : SW G mX5_kindAt d 0 0 0 [.ref 73, .int (nI i), .retAddr 0] [] h (fun r h' => r = some (.int (nI (kindF tp n i))) ∧ h' = h) := by
  have hn := hT.2.2
  refine sw_iload_n dX5_kindAt_0 rfl ?_
  refine sw_iflt (tgt := 15) dX5_kindAt_1 (by decide) (fun hc => ?_) (fun hc => ?_)
  · exact absurd hc (nI_pos hi)
  · refine sw_iload_n dX5_kindAt_4 rfl ?_
    refine sw_aload_n dX5_kindAt_5 rfl ?_
    refine sw_getf dX5_kindAt_6 fl_X5_37 (h73) (hf) ?_
    refine sw_getf dX5_kindAt_9 fl_X5_107 (hT.1) rfl ?_
    refine sw_cmplt (tgt := 17) dX5_kindAt_12 (by decide) (fun hl => ?_) (fun hl => ?_)
    · have hin : i < n := (nI_ltI hi (by omega)).mp hl
      have hk : kindF tp n i = kindC (tp i) := by unfold kindF; rw [if_pos hin]
      rw [hk]
      generalize hce : tp i = c
      refine sw_aload_n dX5_kindAt_17 rfl ?_
      refine sw_getf dX5_kindAt_18 fl_X5_37 (h73) (hf) ?_
      refine sw_getf dX5_kindAt_21 fl_X5_111 (hT.1) rfl ?_
      refine sw_iload_n dX5_kindAt_24 rfl ?_
      refine sw_iald dX5_kindAt_25 (hT.2.1) (vp_in_nI (by omega) (by omega)) (nIat (by omega) hce) ?_
      refine sw_istore_n dX5_kindAt_26 (by decide) rfl ?_
      refine sw_iload_n dX5_kindAt_27 rfl ?_
      refine sw_bipush (v := 97) dX5_kindAt_28 (by decide) ?_
      have dig : ¬ (97 ≤ c ∧ c ≤ 122) → SW G mX5_kindAt d 0 0 41 [.ref 73, .int (nI i), .int c] [] h (fun r h' => r = some (.int (nI (kindC c))) ∧ h' = h) := by
        intro hw
        have rest : ¬ (48 ≤ c ∧ c ≤ 57) → SW G mX5_kindAt d 0 0 55 [.ref 73, .int (nI i), .int c] [] h (fun r h' => r = some (.int (nI (kindC c))) ∧ h' = h) := by
          intro hd
          refine sw_iload_n dX5_kindAt_55 rfl ?_
          refine sw_bipush (v := 32) dX5_kindAt_56 (by decide) ?_
          refine sw_cmpeq (tgt := 67) dX5_kindAt_58 (by decide) (fun h1 => ?_) (fun h1 => ?_)
          · refine sw_iconst (v := 1) dX5_kindAt_67 (by decide) ?_
            exact sw_ireturn dX5_kindAt_68 rfl rfl (⟨by unfold kindC; rw [if_neg hw, if_neg hd, if_pos (Or.inl h1)]; rfl, rfl⟩)
          · refine sw_iload_n dX5_kindAt_61 rfl ?_
            refine sw_bipush (v := 10) dX5_kindAt_62 (by decide) ?_
            refine sw_cmpne (tgt := 69) dX5_kindAt_64 (by decide) (fun h2 => ?_) (fun h2 => ?_)
            · refine sw_iload_n dX5_kindAt_69 rfl ?_
              refine sw_bipush (v := 59) dX5_kindAt_70 (by decide) ?_
              refine sw_cmpne (tgt := 79) dX5_kindAt_72 (by decide) (fun h3 => ?_) (fun h3 => ?_)
              · refine sw_iconst (v := 5) dX5_kindAt_79 (by decide) ?_
                exact sw_ireturn dX5_kindAt_80 rfl rfl (⟨by unfold kindC; rw [if_neg hw, if_neg hd, if_neg (fun q => q.elim h1 h2), if_neg h3]; rfl, rfl⟩)
              · refine sw_iconst (v := 4) dX5_kindAt_75 (by decide) ?_
                refine sw_goto (tgt := 80) dX5_kindAt_76 (by decide) ?_
                exact sw_ireturn dX5_kindAt_80 rfl rfl (⟨by unfold kindC; rw [if_neg hw, if_neg hd, if_neg (fun q => q.elim h1 h2), if_pos h3]; rfl, rfl⟩)
            · refine sw_iconst (v := 1) dX5_kindAt_67 (by decide) ?_
              exact sw_ireturn dX5_kindAt_68 rfl rfl (⟨by unfold kindC; rw [if_neg hw, if_neg hd, if_pos (Or.inr h2)]; rfl, rfl⟩)
        refine sw_iload_n dX5_kindAt_41 rfl ?_
        refine sw_bipush (v := 48) dX5_kindAt_42 (by decide) ?_
        refine sw_cmplt (tgt := 55) dX5_kindAt_44 (by decide) (fun h1 => ?_) (fun h1 => ?_)
        · exact rest (fun q => Int32.not_le.mpr h1 q.1)
        · refine sw_iload_n dX5_kindAt_47 rfl ?_
          refine sw_bipush (v := 57) dX5_kindAt_48 (by decide) ?_
          refine sw_cmpgt (tgt := 55) dX5_kindAt_50 (by decide) (fun h2 => ?_) (fun h2 => ?_)
          · exact rest (fun q => Int32.not_le.mpr h2 q.2)
          · refine sw_iconst (v := 3) dX5_kindAt_53 (by decide) ?_
            exact sw_ireturn dX5_kindAt_54 rfl rfl (⟨by unfold kindC; rw [if_neg hw, if_pos ⟨Int32.not_lt.mp h1, Int32.not_lt.mp h2⟩]; rfl, rfl⟩)
      refine sw_cmplt (tgt := 41) dX5_kindAt_30 (by decide) (fun h1 => ?_) (fun h1 => ?_)
      · exact dig (fun q => Int32.not_le.mpr h1 q.1)
      · refine sw_iload_n dX5_kindAt_33 rfl ?_
        refine sw_bipush (v := 122) dX5_kindAt_34 (by decide) ?_
        refine sw_cmpgt (tgt := 41) dX5_kindAt_36 (by decide) (fun h2 => ?_) (fun h2 => ?_)
        · exact dig (fun q => Int32.not_le.mpr h2 q.2)
        · refine sw_iconst (v := 2) dX5_kindAt_39 (by decide) ?_
          exact sw_ireturn dX5_kindAt_40 rfl rfl (⟨by unfold kindC; rw [if_pos ⟨Int32.not_lt.mp h1, Int32.not_lt.mp h2⟩]; rfl, rfl⟩)
    · have hin : ¬ i < n := fun z => hl (nI_lt z (by omega))
      refine sw_iconst (v := 0) dX5_kindAt_15 (by decide) ?_
      exact sw_ireturn dX5_kindAt_16 rfl rfl (⟨by unfold kindF; rw [if_neg hin]; rfl, rfl⟩)
