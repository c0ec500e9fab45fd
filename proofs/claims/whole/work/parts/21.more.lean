section ROWS7
variable {G : SG} {y : MI} {d bc bs pc : Nat} {L st : List Value} {h : AH} {P : Option Value → AH → Prop}
theorem sw_cpy {ix a b n0 n1 : Nat} {f g : Nat → Int32} {n : Int32} (hd : decode y.2.1 pc = .ok (.invokestatic ix, 3)) (hw : Cond.methodLink y.1.cls ix arraycopyName ∈ wtab) (hal : sg_al G = false) (ha : h[a]? = some (.inl (0, n0, .inl f))) (hb : h[b]? = some (.inl (0, n1, .inl g))) (hn : ¬ n < 0) (hf : n.toNatClampNeg ≤ n0) (hg : n.toNatClampNeg ≤ n1)
    (kk : ∀ h' : AH, h'.length = h.length → h'[b]? = some (.inl (0, n1, .inl (fun k => if k < n.toNatClampNeg then f k else g k))) → (∀ j, j ≠ b → h'[j]? = h[j]?) → SW G y (d + 1) bc bs (pc + 3) L st h' P) (hrm : (st.map fun v => v.category).sum ≤ 8 := by exact Nat.le_of_ble_eq_true rfl) : SW G y (d + 1) bc bs pc L (.int n :: .int 0 :: .ref b :: .int 0 :: .ref a :: st) h P :=
  sw_copyi hd hw w_242 w_241 w_11 hal ha hb hn hf hg hrm kk
theorem sw_rawbits {ix : Nat} {b : UInt32} (hd : decode y.2.1 pc = .ok (.invokestatic ix, 3)) (hw : Cond.methodLink y.1.cls ix ⟨"java/lang/Float", "floatToRawIntBits", "(F)I"⟩ ∈ wtab) (k : SW G y (d + 1) bc bs (pc + 3) L (.int b.toInt32 :: st) h P) (hrm : (st.map fun v => v.category).sum ≤ 8 := by exact Nat.le_of_ble_eq_true rfl) : SW G y (d + 1) bc bs pc L (.float b :: st) h P :=
  sw_f2ib hd hw w_1105 w_1104 w_23 hrm k
theorem sw_obj {ix a : Nat} (hd : decode y.2.1 pc = .ok (.invokespecial ix, 3)) (hw : Cond.methodLink y.1.cls ix Lib.objectInit ∈ wtab) (k : SW G y (d + 1) bc bs (pc + 3) L st h P) (hrm : (st.map fun v => v.category).sum ≤ 8 := by exact Nat.le_of_ble_eq_true rfl) : SW G y (d + 1) bc bs pc L (.ref a :: st) h P :=
  sw_objInit hd hw w_30 w_31 hrm k
end ROWS7
theorem nIat {α : Type} {f : Nat → α} {i : Nat} {v : α} (h : i < 2 ^ 31) (e : f i = v) : f (nI i).toNatClampNeg = v := by rw [nI_clamp h]; exact e
theorem nIupd {f : Nat → Int32} {i : Nat} {v : Int32} (h : i < 2 ^ 31) : upd f (nI i).toNatClampNeg v = upd f i v := by rw [nI_clamp h]
theorem nI_m1 (i : Nat) : nI (i + 1) - 1 = nI i := nI_pred i
theorem nI_p {i : Nat} (h : 0 < i) : nI i - 1 = nI (i - 1) := by
  have := nI_pred (i - 1)
  rw [show i - 1 + 1 = i by omega] at this
  exact this
theorem nI_dec (i : Nat) : nI (i + 1) + (-1) = nI i := by
  rw [← nI_pred i, Int32.sub_eq_add_neg]
theorem m_max {G : SG} {d : Nat} {h : AH} {a b : Int32} : SW G mJ9_max_7cf53 d 0 0 0 [.int a, .int b] [] h (fun r h' => r = some (.int (if a < b then b else a)) ∧ h' = h) := by
  refine sw_iload_n dJ9_max_7cf53_0 rfl ?_
  refine sw_iload_n dJ9_max_7cf53_1 rfl ?_
  refine sw_cmplt (tgt := 9) dJ9_max_7cf53_2 (by decide) (fun hc => ?_) (fun hc => ?_)
  · refine sw_iload_n dJ9_max_7cf53_9 rfl ?_
    exact sw_ireturn dJ9_max_7cf53_10 rfl rfl (⟨by rw [if_pos hc], rfl⟩)
  · refine sw_iload_n dJ9_max_7cf53_5 rfl ?_
    refine sw_goto (tgt := 10) dJ9_max_7cf53_6 (by decide) ?_
    exact sw_ireturn dJ9_max_7cf53_10 rfl rfl (⟨by rw [if_neg hc], rfl⟩)
theorem m_abs {G : SG} {d : Nat} {h : AH} {a : Int32} : SW G mJ9_abs_0f7a4 d 0 0 0 [.int a] [] h (fun r h' => r = some (.int (if 0 ≤ a then a else -a)) ∧ h' = h) := by
  refine sw_iload_n dJ9_abs_0f7a4_0 rfl ?_
  refine sw_ifge (tgt := 9) dJ9_abs_0f7a4_1 (by decide) (fun hc => ?_) (fun hc => ?_)
  · refine sw_iload_n dJ9_abs_0f7a4_9 rfl ?_
    exact sw_ireturn dJ9_abs_0f7a4_10 rfl rfl (⟨by rw [if_pos hc], rfl⟩)
  · refine sw_iload_n dJ9_abs_0f7a4_4 rfl ?_
    refine sw_ineg dJ9_abs_0f7a4_5 ?_
    refine sw_goto (tgt := 10) dJ9_abs_0f7a4_6 (by decide) ?_
    exact sw_ireturn dJ9_abs_0f7a4_10 rfl rfl (⟨by rw [if_neg hc], rfl⟩)
