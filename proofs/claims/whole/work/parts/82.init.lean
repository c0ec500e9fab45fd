/-! making: rows -/
section
variable {G : SG} {y : MI} {d bc bs pc : Nat} {L st : List Value} {h : AH} {P : Option Value → AH → Prop}
theorem SW.le {bc' bs' : Nat} (k : SW G y d bc bs pc L st h P) (h1 : bc ≤ bc') (h2 : bs ≤ bs') : SW G y d bc' bs' pc L st h P := by
  intro p l e R s m args below meth c H locs ls cells slots mc ms C g1 g2 g3 g4 hI hS hL
  exact k p l e R s m args below meth c H locs ls cells slots mc ms C (by omega) (by omega) g3 g4 hI hS hL
theorem ah_push {e : AE} {q : Nat} (hq : h.length = q) : (h ++ [e]).length = q + 1 ∧ (h ++ [e])[q]? = some e ∧ ∀ j, j < q → (h ++ [e])[j]? = h[j]? := by
  subst hq
  refine ⟨by simp, by simp, fun j hj => ?_⟩
  rw [List.getElem?_append_left hj]
theorem ah_set {e e0 : AE} {a : Nat} (hk : h[a]? = some e0) : (h.set a e).length = h.length ∧ (h.set a e)[a]? = some e ∧ ∀ j, j ≠ a → (h.set a e)[j]? = h[j]? := by
  have hlt := (List.getElem?_eq_some_iff.mp hk).1
  refine ⟨by simp, by simp [hlt], fun j hj => ?_⟩
  rw [List.getElem?_set_ne (fun z => hj z.symm)]
theorem sw_na {n : Int32} {N q : Nat} (hd : decode y.2.1 pc = .ok (.newarray .int, 2)) (hq : h.length = q) (hn : ¬ n < 0) (hN : n.toNatClampNeg = N) (hb : N ≤ 1000) (hal : sg_al G = true) (hl : h.length < 1000) (c1 : 1 ≤ bc) (c2 : N ≤ bs) (kk : ∀ g : AH, g.length = q + 1 → g[q]? = some (.inl (0, N, .inl (fun _ => 0))) → (∀ j, j < q → g[j]? = h[j]?) → SW G y d (bc - 1) (bs - N) (pc + 2) L (.ref q :: st) g P) : SW G y d bc bs pc L (.int n :: st) h P := by
  obtain ⟨b1, rfl⟩ : ∃ b, bc = b + 1 := ⟨bc - 1, by omega⟩
  obtain ⟨b2, rfl⟩ : ∃ b, bs = b + N := ⟨bs - N, by omega⟩
  refine sw_newai hd w_48 hn hN hb hal hl ?_
  obtain ⟨a, b, c⟩ := ah_push (e := .inl (0, N, .inl (fun _ => 0))) hq
  have := kk _ a b c
  rw [Nat.add_sub_cancel, Nat.add_sub_cancel] at this
  rw [hq]
  exact this
theorem sw_nz {n : Int32} {N q : Nat} (hd : decode y.2.1 pc = .ok (.newarray .boolean, 2)) (hq : h.length = q) (hn : ¬ n < 0) (hN : n.toNatClampNeg = N) (hb : N ≤ 1000) (hal : sg_al G = true) (hl : h.length < 1000) (c1 : 1 ≤ bc) (c2 : N ≤ bs) (kk : ∀ g : AH, g.length = q + 1 → g[q]? = some (.inl (1, N, .inl (fun _ => 0))) → (∀ j, j < q → g[j]? = h[j]?) → SW G y d (bc - 1) (bs - N) (pc + 2) L (.ref q :: st) g P) : SW G y d bc bs pc L (.int n :: st) h P := by
  obtain ⟨b1, rfl⟩ : ∃ b, bc = b + 1 := ⟨bc - 1, by omega⟩
  obtain ⟨b2, rfl⟩ : ∃ b, bs = b + N := ⟨bs - N, by omega⟩
  refine sw_newaz hd w_803 hn hN hb hal hl ?_
  obtain ⟨a, b, c⟩ := ah_push (e := .inl (1, N, .inl (fun _ => 0))) hq
  have := kk _ a b c
  rw [Nat.add_sub_cancel, Nat.add_sub_cancel] at this
  rw [hq]
  exact this
theorem sw_nar {ix : Nat} {n : Int32} {N q : Nat} (hd : decode y.2.1 pc = .ok (.anewarray ix, 3)) (hw : Cond.classLink y.1.cls ix RX1 ∈ wtab) (hq : h.length = q) (hn : ¬ n < 0) (hN : n.toNatClampNeg = N) (hb : N ≤ 1000) (hal : sg_al G = true) (hl : h.length < 1000) (c1 : 1 ≤ bc) (c2 : N ≤ bs) (kk : ∀ g : AH, g.length = q + 1 → g[q]? = some (.inl (3, N, .inr (.inr (fun _ => none)))) → (∀ j, j < q → g[j]? = h[j]?) → SW G y d (bc - 1) (bs - N) (pc + 3) L (.ref q :: st) g P) : SW G y d bc bs pc L (.int n :: st) h P := by
  obtain ⟨b1, rfl⟩ : ∃ b, bc = b + 1 := ⟨bc - 1, by omega⟩
  obtain ⟨b2, rfl⟩ : ∃ b, bs = b + N := ⟨bs - N, by omega⟩
  refine sw_anew hd hw hn hN hb hal hl ?_
  obtain ⟨a, b, c⟩ := ah_push (e := .inl (3, N, .inr (.inr (fun _ => none)))) hq
  have := kk _ a b c
  rw [Nat.add_sub_cancel, Nat.add_sub_cancel] at this
  rw [hq]
  exact this
theorem sw_nw {ix ci N q : Nat} {fs : List Value} (hd : decode y.2.1 pc = .ok (.new ix, 3)) (hw : nw_ok y.1.cls ix ci fs) (hq : h.length = q) (hfs : fs.map (sg_tr G) = fs) (hN : fs.length = N) (hal : sg_al G = true) (hl : h.length < 1000) (c1 : 1 ≤ bc) (c2 : N ≤ bs) (kk : ∀ g : AH, g.length = q + 1 → g[q]? = some (.inr (ci, fs)) → (∀ j, j < q → g[j]? = h[j]?) → SW G y d (bc - 1) (bs - N) (pc + 3) L (.ref q :: st) g P) : SW G y d bc bs pc L st h P := by
  subst hN
  obtain ⟨b1, rfl⟩ : ∃ b, bc = b + 1 := ⟨bc - 1, by omega⟩
  obtain ⟨b2, rfl⟩ : ∃ b, bs = b + fs.length := ⟨bs - fs.length, by omega⟩
  refine sw_new hd hw hfs hal hl ?_
  obtain ⟨a, b, c⟩ := ah_push (e := .inr (ci, fs)) hq
  have := kk _ a b c
  rw [Nat.add_sub_cancel, Nat.add_sub_cancel] at this
  rw [hq]
  exact this
theorem sw_aas {a b n : Nat} {fs : List Value} {f : Nat → Option Nat} {i : Int32} (hd : decode y.2.1 pc = .ok (.aastore, 1)) (hk : h[a]? = some (.inl (3, n, .inr (.inr f)))) (hv : h[b]? = some (.inr (0, fs))) (hin : vp_in i n)
    (kk : ∀ g : AH, g.length = h.length → g[a]? = some (.inl (3, n, .inr (.inr (va_up f i.toNatClampNeg (some b))))) → (∀ j, j ≠ a → g[j]? = h[j]?) → SW G y d bc bs (pc + 1) L st g P) : SW G y d bc bs pc L (.ref b :: .int i :: .ref a :: st) h P := by
  refine sw_aast hd hk hv hin ?_
  obtain ⟨x, z, w⟩ := ah_set (e := .inl (3, n, .inr (.inr (va_up f i.toNatClampNeg (some b))))) hk
  exact kk _ x z w
theorem sw_pF {ix ci kf a : Nat} {ty : FieldType} {fs : List Value} {v : Value} (hd : decode y.2.1 pc = .ok (.putfield ix, 3)) (hf : fl_ok y.1.cls ix ci kf ty true) (hin2 : y.1.name = "<init>") (hown : ∀ r : vw_C, vwCl[ci]? = some r → r.1 = y.1.cls) (hk : h[a]? = some (.inr (ci, fs))) (hl : kf < fs.length) (hn : narrow ty (sg_tr G v) = sg_tr G v) (hft : fits ty (sg_tr G v) = true)
    (kk : ∀ g : AH, g.length = h.length → g[a]? = some (.inr (ci, fs.set kf v)) → (∀ j, j ≠ a → g[j]? = h[j]?) → SW G y d bc bs (pc + 3) L st g P) : SW G y d bc bs pc L (v :: .ref a :: st) h P := by
  refine sw_putF hd hf hin2 hown hk hl hn hft ?_
  obtain ⟨x, z, w⟩ := ah_set (e := .inr (ci, fs.set kf v)) hk
  exact kk _ x z w
theorem sw_ct0 {ix b bc' bs' : Nat} {y' : MI} {L0 : List Value} {P' : Option Value → AH → Prop} (hd : decode y.2.1 pc = .ok (.invokespecial ix, 3)) (hc : ct_ok y.1.cls ix y' 0) (hM : SW G y' d bc' bs' 0 L0 [] h P') (c1 : bc' ≤ bc) (c2 : bs' ≤ bs) (kk : ∀ r h', P' r h' → SW G y (d + 1) (bc - bc') (bs - bs') (pc + 3) L (r.toList ++ st) h' P) (hrm : (st.map fun v => v.category).sum ≤ 8 := by exact Nat.le_of_ble_eq_true rfl) (hL0 : L0 = .ref b :: List.replicate (y'.2.2.1 - 1) (.retAddr 0) := by rfl) : SW G y (d + 1) bc bs pc L (.ref b :: st) h P := by
  obtain ⟨b1, rfl⟩ : ∃ b, bc = b + bc' := ⟨bc - bc', by omega⟩
  obtain ⟨b2, rfl⟩ : ∃ b, bs = b + bs' := ⟨bs - bs', by omega⟩
  rw [Nat.add_sub_cancel, Nat.add_sub_cancel] at kk
  exact sw_callI [] hd hc.1 hc.2.1 hc.2.2.1 hc.2.2.2.1 hc.2.2.2.2.1 hc.2.2.2.2.2.1 rfl hc.2.2.2.2.2.2 (fun v hv => by cases hv) rfl hrm hL0 hM kk
theorem sw_ctn0 {ix b bc' bs' : Nat} {y' : MI} {L0 : List Value} {P' : Option Value → AH → Prop} (hd : decode y.2.1 pc = .ok (.invokespecial ix, 3)) (hc : ctn_ok y.1.cls ix y' 0) (hM : SW G y' d bc' bs' 0 L0 [] h P') (c1 : bc' ≤ bc) (c2 : bs' ≤ bs) (kk : ∀ r h', P' r h' → SW G y (d + 1) (bc - bc') (bs - bs') (pc + 3) L (r.toList ++ st) h' P) (hrm : (st.map fun v => v.category).sum ≤ 8 := by exact Nat.le_of_ble_eq_true rfl) (hL0 : L0 = .ref b :: List.replicate (y'.2.2.1 - 1) (.retAddr 0) := by rfl) : SW G y (d + 1) bc bs pc L (.ref b :: st) h P := by
  obtain ⟨b1, rfl⟩ : ∃ b, bc = b + bc' := ⟨bc - bc', by omega⟩
  obtain ⟨b2, rfl⟩ : ∃ b, bs = b + bs' := ⟨bs - bs', by omega⟩
  rw [Nat.add_sub_cancel, Nat.add_sub_cancel] at kk
  exact sw_callIN [] hd hc.1 hc.2.1 hc.2.2.1 hc.2.2.2.1 hc.2.2.2.2.1 hc.2.2.2.2.2.1 rfl hc.2.2.2.2.2.2 (fun v hv => by cases hv) rfl hrm hL0 hM kk
theorem sw_ct1 {ix b bc' bs' : Nat} {y' : MI} {a1 : Value} {L0 : List Value} {P' : Option Value → AH → Prop} (hd : decode y.2.1 pc = .ok (.invokespecial ix, 3)) (hc : ct_ok y.1.cls ix y' 1) (hM : SW G y' d bc' bs' 0 L0 [] h P') (c1 : bc' ≤ bc) (c2 : bs' ≤ bs) (kk : ∀ r h', P' r h' → SW G y (d + 1) (bc - bc') (bs - bs') (pc + 3) L (r.toList ++ st) h' P) (q1 : a1.category = 1 := by rfl) (hrm : (st.map fun v => v.category).sum ≤ 8 := by exact Nat.le_of_ble_eq_true rfl) (hL0 : L0 = .ref b :: a1 :: List.replicate (y'.2.2.1 - 2) (.retAddr 0) := by rfl) : SW G y (d + 1) bc bs pc L (a1 :: .ref b :: st) h P := by
  obtain ⟨b1, rfl⟩ : ∃ b, bc = b + bc' := ⟨bc - bc', by omega⟩
  obtain ⟨b2, rfl⟩ : ∃ b, bs = b + bs' := ⟨bs - bs', by omega⟩
  rw [Nat.add_sub_cancel, Nat.add_sub_cancel] at kk
  exact sw_callI [a1] hd hc.1 hc.2.1 hc.2.2.1 hc.2.2.2.1 hc.2.2.2.2.1 hc.2.2.2.2.2.1 rfl hc.2.2.2.2.2.2 (fun v hv => by simp only [List.mem_cons, List.not_mem_nil, or_false] at hv; rcases hv with rfl <;> assumption) rfl hrm hL0 hM kk
end
theorem nw_Mem : nw_ok RX1 18 1 [.null, .null, .null, .int 0] := ⟨_, _, _, tyX2, rfl, w_87, w_88, w_6, in_RX2, tyX2_ok, by decide, rfl⟩
theorem nw_Gate : nw_ok RX7 18 0 [.null, .null, .null, .int 0] := ⟨_, _, _, tyX1, rfl, w_80, w_82, w_5, in_RX1, tyX1_ok, by decide, rfl⟩
theorem nw_Tape : nw_ok RX8 7 3 [.null, .int 0] := ⟨_, _, _, tyX4, rfl, w_32, w_33, w_2, in_RX4, tyX4_ok, by decide, rfl⟩
theorem nw_Tabs : nw_ok RX8 16 2 [.null, .null, .null, .null, .null] := ⟨_, _, _, tyX3, rfl, w_49, w_50, w_3, in_RX3, tyX3_ok, by decide, rfl⟩
theorem nw_World : nw_ok RX8 23 5 [.null, .null, .null, .int 0, .int 0, .int 0, .int 0, .int 0, .null] := ⟨_, _, _, tyX7, rfl, w_74, w_75, w_4, in_RX7, tyX7_ok, by decide, rfl⟩
theorem nw_Tel : nw_ok RX8 35 4 [.int 0, .null, .null, .null, .int 0, .int 0, .int 0] := ⟨_, _, _, tyX5, rfl, w_171, w_172, w_7, in_RX5, tyX5_ok, by decide, rfl⟩
theorem nw_Cls : nw_ok RL 8 6 [.null, .null, .null, .null, .null] := ⟨_, _, _, tyX8, rfl, w_24, w_25, w_1, in_RX8, tyX8_ok, by decide, rfl⟩
theorem nw_Mod : nw_ok RL 16 7 [.int 0, .null, .null, .null, .null, .null, .null, .null, .null, .int 0, .int 0, .int 0, .int 0, .int 0, .int 0, .int 0, .int 0] := ⟨_, _, _, tyX9, rfl, w_745, w_746, w_10, in_RX9, tyX9_ok, by decide, rfl⟩
theorem i_mem {G : SG} {d k : Nat} {h : AH} (hal : sg_al G = true) (hk : h[k]? = some (.inr (1, [.null, .null, .null, .int 0]))) (hl : h.length = k + 1) (hb : k + 4 ≤ 1000) : SW G mX2_init (d + 1) 3 48 0 [.ref k] [] h (fun r h' => r = none ∧ h'.length = k + 4 ∧ MemAt h' k [] ∧ ∀ j, j < k → h'[j]? = h[j]?) := by
  refine sw_aload_n dX2_init_0 rfl ?_
  refine sw_objInit dX2_init_1 w_92 w_30 w_31 (Nat.le_of_ble_eq_true rfl) ?_
  refine sw_aload_n dX2_init_4 rfl ?_
  refine sw_bipush (v := 16) dX2_init_5 (by decide) ?_
  refine sw_na (N := 16) (q := k + 1) dX2_init_7 (by omega) (by decide) (by decide) (by decide) hal (by omega) (by decide) (by decide) (fun g1 z1 e1 o1 => ?_)
  refine sw_pF dX2_init_9 fl_X2_9 rfl (fun r hr => by cases hr; rfl) ((o1 k (by omega)).trans hk) (Nat.le_of_ble_eq_true rfl) rfl rfl (fun g2 z2 e2 o2 => ?_)
  refine sw_aload_n dX2_init_12 rfl ?_
  refine sw_bipush (v := 16) dX2_init_13 (by decide) ?_
  refine sw_na (N := 16) (q := k + 2) dX2_init_15 (by omega) (by decide) (by decide) (by decide) hal (by omega) (by decide) (by decide) (fun g3 z3 e3 o3 => ?_)
  refine sw_pF dX2_init_17 fl_X2_15 rfl (fun r hr => by cases hr; rfl) ((o3 k (by omega)).trans e2) (Nat.le_of_ble_eq_true rfl) rfl rfl (fun g4 z4 e4 o4 => ?_)
  refine sw_aload_n dX2_init_20 rfl ?_
  refine sw_bipush (v := 16) dX2_init_21 (by decide) ?_
  refine sw_na (N := 16) (q := k + 3) dX2_init_23 (by omega) (by decide) (by decide) (by decide) hal (by omega) (by decide) (by decide) (fun g5 z5 e5 o5 => ?_)
  refine sw_pF dX2_init_25 fl_X2_18 rfl (fun r hr => by cases hr; rfl) ((o5 k (by omega)).trans e4) (Nat.le_of_ble_eq_true rfl) rfl rfl (fun g6 z6 e6 o6 => ?_)
  refine sw_aload_n dX2_init_28 rfl ?_
  refine sw_iconst (v := 0) dX2_init_29 (by decide) ?_
  refine sw_puti dX2_init_30 fl_X2_21 (e6) (Nat.le_of_ble_eq_true rfl) (fun g7 z7 e7 o7 => ?_)
  have f5 : g7[k + 3]? = _ := (o7 _ (by omega)).trans ((o6 _ (by omega)).trans e5)
  have f3 : g7[k + 2]? = _ := (o7 _ (by omega)).trans ((o6 _ (by omega)).trans ((o5 _ (by omega)).trans ((o4 _ (by omega)).trans e3)))
  have f1 : g7[k + 1]? = _ := (o7 _ (by omega)).trans ((o6 _ (by omega)).trans ((o5 _ (by omega)).trans ((o4 _ (by omega)).trans ((o3 _ (by omega)).trans ((o2 _ (by omega)).trans e1)))))
  exact sw_return dX2_init_33 rfl (⟨rfl, by omega, ⟨_, _, _, ⟨e7, f1, f3, f5, Nat.zero_le _⟩, fun i e he => by cases he⟩, fun j hj => (o7 _ (by omega)).trans ((o6 _ (by omega)).trans ((o5 _ (by omega)).trans ((o4 _ (by omega)).trans ((o3 _ (by omega)).trans ((o2 _ (by omega)).trans (o1 _ (by omega)))))))⟩)
theorem i_gate {G : SG} {d k : Nat} {h : AH} (hal : sg_al G = true) (hk : h[k]? = some (.inr (0, [.null, .null, .null, .int 0]))) (hl : h.length = k + 1) (hb : k + 7 ≤ 1000) : SW G mX1_init (d + 2) 6 157 0 [.ref k] [] h (fun r h' => r = none ∧ h'.length = k + 7 ∧ GateAt h' k (fun _ => 0, fun _ => 0, 0, []) ∧ ∀ j, j < k → h'[j]? = h[j]?) := by
  refine sw_aload_n dX1_init_0 rfl ?_
  refine sw_objInit dX1_init_1 w_86 w_30 w_31 (Nat.le_of_ble_eq_true rfl) ?_
  refine sw_aload_n dX1_init_4 rfl ?_
  refine sw_bipush (v := 8) dX1_init_5 (by decide) ?_
  refine sw_na (N := 8) (q := k + 1) dX1_init_7 (by omega) (by decide) (by decide) (by decide) hal (by omega) (by decide) (by decide) (fun g1 z1 e1 o1 => ?_)
  refine sw_pF dX1_init_9 fl_X1_9 rfl (fun r hr => by cases hr; rfl) ((o1 k (by omega)).trans hk) (Nat.le_of_ble_eq_true rfl) rfl rfl (fun g2 z2 e2 o2 => ?_)
  refine sw_aload_n dX1_init_12 rfl ?_
  refine sw_bipush (v := 97) dX1_init_13 (by decide) ?_
  refine sw_na (N := 97) (q := k + 2) dX1_init_15 (by omega) (by decide) (by decide) (by decide) hal (by omega) (by decide) (by decide) (fun g3 z3 e3 o3 => ?_)
  refine sw_pF dX1_init_17 fl_X1_15 rfl (fun r hr => by cases hr; rfl) ((o3 k (by omega)).trans e2) (Nat.le_of_ble_eq_true rfl) rfl rfl (fun g4 z4 e4 o4 => ?_)
  refine sw_aload_n dX1_init_20 rfl ?_
  refine sw_nw (N := 4) (q := k + 3) dX1_init_21 nw_Mem (by omega) rfl rfl hal (by omega) (by decide) (by decide) (fun g5 z5 e5 o5 => ?_)
  refine sw_dup dX1_init_24 rfl ?_
  refine sw_ctn0 dX1_init_25 ct_X1_20 (i_mem hal e5 (by omega) (by omega)) (by decide) (by decide) (fun r g6 hr => ?_)
  obtain ⟨rfl, z6, hM, o6⟩ := hr
  refine sw_pF dX1_init_28 fl_X1_21 rfl (fun r hr => by cases hr; rfl) ((o6 k (by omega)).trans ((o5 k (by omega)).trans e4)) (Nat.le_of_ble_eq_true rfl) rfl rfl (fun g7 z7 e7 o7 => ?_)
  refine sw_aload_n dX1_init_31 rfl ?_
  refine sw_iconst (v := 0) dX1_init_32 (by decide) ?_
  refine sw_putz dX1_init_33 fl_X1_25 (Or.inl rfl) (e7) (Nat.le_of_ble_eq_true rfl) (fun g8 z8 e8 o8 => ?_)
  have oo : ∀ j, j ≠ k → g8[j]? = g6[j]? := fun j hj => (o8 j hj).trans (o7 j hj)
  have f3 : g8[k + 2]? = _ := (oo _ (by omega)).trans ((o6 _ (by omega)).trans ((o5 _ (by omega)).trans ((o4 _ (by omega)).trans e3)))
  have f1 : g8[k + 1]? = _ := (oo _ (by omega)).trans ((o6 _ (by omega)).trans ((o5 _ (by omega)).trans ((o4 _ (by omega)).trans ((o3 _ (by omega)).trans ((o2 _ (by omega)).trans e1)))))
  exact sw_return dX1_init_36 rfl (⟨rfl, by omega, ⟨e8, f1, f3, hM.kept (fun j a b => oo j (by omega)), Or.inl rfl⟩, fun j hj => (oo _ (by omega)).trans ((o6 _ (by omega)).trans ((o5 _ (by omega)).trans ((o4 _ (by omega)).trans ((o3 _ (by omega)).trans ((o2 _ (by omega)).trans (o1 _ (by omega)))))))⟩)
