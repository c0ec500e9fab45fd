/-! making: world, object, reference -/
def W0 : WS := (fun _ => 0, fun _ => 0, 7, 0, 0, 8, 20, fun _ => (fun _ => 0, fun _ => 0, 0, []))
theorem i_gs {G : SG} {d bc bs pc ix q a : Nat} {L st : List Value} {h : AH} {P : Option Value → AH → Prop} {f : Nat → Option Nat} {n : Int} {i : Int32} (hal : sg_al G = true)
    (d0 : decode mX7_init.2.1 pc = .ok (.dup, 1)) (d1 : decode mX7_init.2.1 (pc + 1) = .ok (.iconst n, 1)) (hi : Int32.ofInt n = i) (d2 : decode mX7_init.2.1 (pc + 2) = .ok (.new 18, 3)) (d5 : decode mX7_init.2.1 (pc + 5) = .ok (.dup, 1)) (d6 : decode mX7_init.2.1 (pc + 6) = .ok (.invokespecial 20, 3)) (d9 : decode mX7_init.2.1 (pc + 9) = .ok (.aastore, 1))
    (hA : h[a]? = some (.inl (3, 4, .inr (.inr f)))) (hin : vp_in i 4) (hl : h.length = q) (hb : q + 7 ≤ 1000) (haq : a < q) (c1 : 7 ≤ bc) (c2 : 161 ≤ bs) (hrm : (st.map fun v => v.category).sum ≤ 4)
    (kk : ∀ g : AH, g.length = q + 7 → GateAt g q (fun _ => 0, fun _ => 0, 0, []) → g[a]? = some (.inl (3, 4, .inr (.inr (va_up f i.toNatClampNeg (some q))))) → (∀ j, j < q → j ≠ a → g[j]? = h[j]?) → SW G mX7_init (d + 3) (bc - 7) (bs - 161) (pc + 10) L (.ref a :: st) g P) : SW G mX7_init (d + 3) bc bs pc L (.ref a :: st) h P := by
  refine sw_dup d0 rfl ?_
  refine sw_iconst d1 hi ?_
  refine sw_nw (N := 4) (q := q) d2 nw_Gate hl rfl rfl hal (by omega) (by omega) (by omega) (fun g z e o => ?_)
  refine sw_dup d5 rfl ?_
  refine sw_ctn0 (pc := pc + 6) d6 ct_X7_20 (i_gate hal e z (by omega)) (by omega) (by omega) (fun r g1 hr => ?_) (by simp only [List.map_cons, List.sum_cons]; show 1 + (1 + (1 + (1 + _))) ≤ 8; omega)
  obtain ⟨rfl, z1, hG, o1⟩ := hr
  refine sw_aas (pc := pc + 9) d9 ((o1 a haq).trans ((o a haq).trans hA)) hG.1 hin (fun g2 z2 e2 o2 => ?_)
  have := kk g2 (z2.trans z1) (hG.kept (fun j x y => o2 j (by omega))) e2 (fun j hj hja => (o2 j hja).trans ((o1 j hj).trans (o j hj)))
  rw [show bc - 7 = bc - 1 - 6 by omega, show bs - 161 = bs - 4 - 157 by omega] at this
  exact this
theorem i_w2 {G : SG} {d bc bs b : Nat} {h : AH} (hk : h[b]? = some (.inr (5, [.ref (b + 1), .ref (b + 2), .null, .int 0, .int 0, .int 0, .int 0, .int 0, .null]))) (hl : h.length = b + 32) (h1 : h[b + 1]? = some (.inl (0, 8, .inl (fun _ => 0)))) (h2 : h[b + 2]? = some (.inl (0, 8, .inl (fun _ => 0)))) (hA : GArr h b) (hG : ∀ i, i < 4 → GateAt h (b + 4 + 7 * i) (fun _ => 0, fun _ => 0, 0, [])) : SW G mX7_init (d + 3) bc bs 65 [.ref b, .ref 3] [.ref (b + 3), .ref b] h (fun r h' => r = none ∧ h'.length = b + 32 ∧ WorldAt h' b W0 ∧ ∀ j, j < b → h'[j]? = h[j]?) := by
  refine sw_pF dX7_init_65 fl_X7_21 rfl (fun r hr => by cases hr; rfl) (hk) (Nat.le_of_ble_eq_true rfl) rfl rfl (fun g18 z18 e18 o18 => ?_)
  refine sw_aload_n dX7_init_68 rfl ?_
  refine sw_bipush (v := 7) dX7_init_69 (by decide) ?_
  refine sw_puti dX7_init_71 fl_X7_25 (e18) (Nat.le_of_ble_eq_true rfl) (fun g19 z19 e19 o19 => ?_)
  refine sw_aload_n dX7_init_74 rfl ?_
  refine sw_iconst (v := 0) dX7_init_75 (by decide) ?_
  refine sw_puti dX7_init_76 fl_X7_29 (e19) (Nat.le_of_ble_eq_true rfl) (fun g20 z20 e20 o20 => ?_)
  refine sw_aload_n dX7_init_79 rfl ?_
  refine sw_iconst (v := 0) dX7_init_80 (by decide) ?_
  refine sw_puti dX7_init_81 fl_X7_32 (e20) (Nat.le_of_ble_eq_true rfl) (fun g21 z21 e21 o21 => ?_)
  refine sw_aload_n dX7_init_84 rfl ?_
  refine sw_bipush (v := 8) dX7_init_85 (by decide) ?_
  refine sw_puti dX7_init_87 fl_X7_35 (e21) (Nat.le_of_ble_eq_true rfl) (fun g22 z22 e22 o22 => ?_)
  refine sw_aload_n dX7_init_90 rfl ?_
  refine sw_bipush (v := 20) dX7_init_91 (by decide) ?_
  refine sw_puti dX7_init_93 fl_X7_38 (e22) (Nat.le_of_ble_eq_true rfl) (fun g23 z23 e23 o23 => ?_)
  refine sw_aload_n dX7_init_96 rfl ?_
  refine sw_aload_n dX7_init_97 rfl ?_
  refine sw_pF dX7_init_98 fl_X7_41 rfl (fun r hr => by cases hr; rfl) (e23) (Nat.le_of_ble_eq_true rfl) rfl rfl (fun g24 z24 e24 o24 => ?_)
  have oo : ∀ j, j ≠ b → g24[j]? = h[j]? := fun j hj => (o24 j hj).trans ((o23 j hj).trans ((o22 j hj).trans ((o21 j hj).trans ((o20 j hj).trans ((o19 j hj).trans (o18 j hj))))))
  have zz : g24.length = b + 32 := z24.trans (z23.trans (z22.trans (z21.trans (z20.trans (z19.trans (z18.trans hl))))))
  clear o24 o23 o22 o21 o20 o19 o18 z24 z23 z22 z21 z20 z19 z18
  obtain ⟨f, hf, hf2⟩ := hA
  have hW : WorldAt g24 b W0 := ⟨e24, (oo _ (by omega)).trans h1, (oo _ (by omega)).trans h2, ⟨f, (oo _ (by omega)).trans hf, hf2⟩, by show 0 ≤ 8; omega, fun i hi => (hG i hi).kept (fun j x y => oo j (by omega))⟩
  exact sw_return dX7_init_101 rfl (⟨rfl, zz, hW, fun j hj => oo j (by omega)⟩)
theorem i_w1 {G : SG} {d b : Nat} {h : AH} (hal : sg_al G = true) (hk : h[b]? = some (.inr (5, [.ref (b + 1), .ref (b + 2), .null, .int 0, .int 0, .int 0, .int 0, .int 0, .null]))) (hl : h.length = b + 4) (hb : b + 32 ≤ 1000) (h1 : h[b + 1]? = some (.inl (0, 8, .inl (fun _ => 0)))) (h2 : h[b + 2]? = some (.inl (0, 8, .inl (fun _ => 0)))) (hA : h[b + 3]? = some (.inl (3, 4, .inr (.inr (fun _ => none))))) : SW G mX7_init (d + 3) 28 644 25 [.ref b, .ref 3] [.ref (b + 3), .ref b] h (fun r h' => r = none ∧ h'.length = b + 32 ∧ WorldAt h' b W0 ∧ ∀ j, j < b → h'[j]? = h[j]?) := by
  refine i_gs (q := b + 4) (ix := 20) hal dX7_init_25 dX7_init_26 (by decide) dX7_init_27 dX7_init_30 dX7_init_31 dX7_init_34 hA (vp_in_nI (n := 0) (by omega) (by omega)) hl (by omega) (by omega) (by decide) (by decide) (Nat.le_of_ble_eq_true rfl) (fun g1 z1 G1 e1 o1 => ?_)
  refine i_gs (q := b + 4 + 7) (ix := 20) hal dX7_init_35 dX7_init_36 (by decide) dX7_init_37 dX7_init_40 dX7_init_41 dX7_init_44 e1 (vp_in_nI (n := 1) (by omega) (by omega)) z1 (by omega) (by omega) (by decide) (by decide) (Nat.le_of_ble_eq_true rfl) (fun g2 z2 G2 e2 o2 => ?_)
  refine i_gs (q := b + 4 + 7 + 7) (ix := 20) hal dX7_init_45 dX7_init_46 (by decide) dX7_init_47 dX7_init_50 dX7_init_51 dX7_init_54 e2 (vp_in_nI (n := 2) (by omega) (by omega)) z2 (by omega) (by omega) (by decide) (by decide) (Nat.le_of_ble_eq_true rfl) (fun g3 z3 G3 e3 o3 => ?_)
  refine i_gs (q := b + 4 + 7 + 7 + 7) (ix := 20) hal dX7_init_55 dX7_init_56 (by decide) dX7_init_57 dX7_init_60 dX7_init_61 dX7_init_64 e3 (vp_in_nI (n := 3) (by omega) (by omega)) z3 (by omega) (by omega) (by decide) (by decide) (Nat.le_of_ble_eq_true rfl) (fun g4 z4 G4 e4 o4 => ?_)
  have G3 := G3.kept (h' := g4) (fun j x y => o4 j (by omega) (by omega))
  have G2 := G2.kept (h' := g4) (fun j x y => (o4 j (by omega) (by omega)).trans (o3 j (by omega) (by omega)))
  have G1 := G1.kept (h' := g4) (fun j x y => (o4 j (by omega) (by omega)).trans ((o3 j (by omega) (by omega)).trans (o2 j (by omega) (by omega))))
  have oo : ∀ j, j < b + 3 → g4[j]? = h[j]? := fun j hj => (o4 j (by omega) (by omega)).trans ((o3 j (by omega) (by omega)).trans ((o2 j (by omega) (by omega)).trans (o1 j (by omega) (by omega))))
  refine (i_w2 ((oo b (by omega)).trans hk) (by omega) ((oo _ (by omega)).trans h1) ((oo _ (by omega)).trans h2) ⟨_, e4, fun i hi => ?_⟩ (fun i hi => ?_)).mono (fun r h' q => ⟨q.1, q.2.1, q.2.2.1, fun j hj => (q.2.2.2 j hj).trans (oo j (by omega))⟩)
  · rcases (show i = 0 ∨ i = 1 ∨ i = 2 ∨ i = 3 by omega) with rfl | rfl | rfl | rfl <;> rfl
  · rcases (show i = 0 ∨ i = 1 ∨ i = 2 ∨ i = 3 by omega) with rfl | rfl | rfl | rfl
    · exact G1
    · exact G2
    · exact G3
    · exact G4
theorem i_world {G : SG} {d b : Nat} {h : AH} (hal : sg_al G = true) (hk : h[b]? = some (.inr (5, [.null, .null, .null, .int 0, .int 0, .int 0, .int 0, .int 0, .null]))) (hl : h.length = b + 1) (hb : b + 32 ≤ 1000) : SW G mX7_init (d + 3) 31 664 0 [.ref b, .ref 3] [] h (fun r h' => r = none ∧ h'.length = b + 32 ∧ WorldAt h' b W0 ∧ ∀ j, j < b → h'[j]? = h[j]?) := by
  refine sw_aload_n dX7_init_0 rfl ?_
  refine sw_objInit dX7_init_1 w_79 w_30 w_31 (Nat.le_of_ble_eq_true rfl) ?_
  refine sw_aload_n dX7_init_4 rfl ?_
  refine sw_bipush (v := 8) dX7_init_5 (by decide) ?_
  refine sw_na (N := 8) (q := b + 1) dX7_init_7 (by omega) (by decide) (by decide) (by decide) hal (by omega) (by decide) (by decide) (fun g1 z1 e1 o1 => ?_)
  refine sw_pF dX7_init_9 fl_X7_9 rfl (fun r hr => by cases hr; rfl) ((o1 b (by omega)).trans hk) (Nat.le_of_ble_eq_true rfl) rfl rfl (fun g2 z2 e2 o2 => ?_)
  refine sw_aload_n dX7_init_12 rfl ?_
  refine sw_bipush (v := 8) dX7_init_13 (by decide) ?_
  refine sw_na (N := 8) (q := b + 2) dX7_init_15 (by omega) (by decide) (by decide) (by decide) hal (by omega) (by decide) (by decide) (fun g3 z3 e3 o3 => ?_)
  refine sw_pF dX7_init_17 fl_X7_15 rfl (fun r hr => by cases hr; rfl) ((o3 b (by omega)).trans e2) (Nat.le_of_ble_eq_true rfl) rfl rfl (fun g4 z4 e4 o4 => ?_)
  refine sw_aload_n dX7_init_20 rfl ?_
  refine sw_iconst (v := 4) dX7_init_21 (by decide) ?_
  refine sw_nar (N := 4) (q := b + 3) dX7_init_22 w_80 (by omega) (by decide) (by decide) (by decide) hal (by omega) (by decide) (by decide) (fun g5 z5 e5 o5 => ?_)
  refine (i_w1 hal ((o5 b (by omega)).trans e4) z5 hb ((o5 _ (by omega)).trans ((o4 _ (by omega)).trans ((o3 _ (by omega)).trans ((o2 _ (by omega)).trans e1)))) ((o5 _ (by omega)).trans ((o4 _ (by omega)).trans e3)) e5).mono (fun r h' q => ⟨q.1, q.2.1, q.2.2.1, fun j hj => (q.2.2.2 j hj).trans ((o5 _ (by omega)).trans ((o4 _ (by omega)).trans ((o3 _ (by omega)).trans ((o2 _ (by omega)).trans (o1 _ (by omega))))))⟩)
theorem i_tape {G : SG} {d : Nat} {h : AH} (hal : sg_al G = true) (hk : h[1]? = some (.inr (3, [.null, .int 0]))) (hl : h.length = 2) : SW G mX4_init (d + 1) 1 400 0 [.ref 1] [] h (fun r h' => r = none ∧ h'.length = 3 ∧ TapeAt h' (fun _ => 0) 0 ∧ ∀ j, j < 1 → h'[j]? = h[j]?) := by
  refine sw_aload_n dX4_init_0 rfl ?_
  refine sw_objInit dX4_init_1 w_37 w_30 w_31 (Nat.le_of_ble_eq_true rfl) ?_
  refine sw_aload_n dX4_init_4 rfl ?_
  refine sw_sipush (v := 400) dX4_init_5 (by decide) ?_
  refine sw_na (N := 400) (q := 2) dX4_init_8 (by omega) (by decide) (by decide) (by decide) hal (by omega) (by decide) (by decide) (fun g1 z1 e1 o1 => ?_)
  refine sw_pF dX4_init_10 fl_X4_9 rfl (fun r hr => by cases hr; rfl) ((o1 1 (by omega)).trans hk) (Nat.le_of_ble_eq_true rfl) rfl rfl (fun g2 z2 e2 o2 => ?_)
  refine sw_aload_n dX4_init_13 rfl ?_
  refine sw_iconst (v := 0) dX4_init_14 (by decide) ?_
  refine sw_puti dX4_init_15 fl_X4_15 (e2) (Nat.le_of_ble_eq_true rfl) (fun g3 z3 e3 o3 => ?_)
  exact sw_return dX4_init_18 rfl (⟨rfl, by omega, ⟨e3, (o3 _ (by omega)).trans ((o2 _ (by omega)).trans e1), Nat.zero_le _⟩, fun j hj => (o3 _ (by omega)).trans ((o2 _ (by omega)).trans (o1 _ (by omega)))⟩)
theorem i_tabs {G : SG} {d : Nat} {h : AH} (hal : sg_al G = true) (hk : h[3]? = some (.inr (2, [.null, .null, .null, .null, .null]))) (hl : h.length = 4) : SW G mX3_init (d + 1) 5 218 0 [.ref 3] [] h (fun r h' => r = none ∧ h'.length = 9 ∧ TabAt h' ∧ ∀ j, j < 3 → h'[j]? = h[j]?) := by
  refine sw_aload_n dX3_init_0 rfl ?_
  refine sw_objInit dX3_init_1 w_54 w_30 w_31 (Nat.le_of_ble_eq_true rfl) ?_
  refine sw_aload_n dX3_init_4 rfl ?_
  refine sw_bipush (v := 97) dX3_init_5 (by decide) ?_
  refine sw_na (N := 97) (q := 4) dX3_init_7 (by omega) (by decide) (by decide) (by decide) hal (by omega) (by decide) (by decide) (fun g1 z1 e1 o1 => ?_)
  refine sw_pF dX3_init_9 fl_X3_9 rfl (fun r hr => by cases hr; rfl) ((o1 3 (by omega)).trans hk) (Nat.le_of_ble_eq_true rfl) rfl rfl (fun g2 z2 e2 o2 => ?_)
  refine sw_aload_n dX3_init_12 rfl ?_
  refine sw_bipush (v := 97) dX3_init_13 (by decide) ?_
  refine sw_na (N := 97) (q := 5) dX3_init_15 (by omega) (by decide) (by decide) (by decide) hal (by omega) (by decide) (by decide) (fun g3 z3 e3 o3 => ?_)
  refine sw_pF dX3_init_17 fl_X3_15 rfl (fun r hr => by cases hr; rfl) ((o3 3 (by omega)).trans e2) (Nat.le_of_ble_eq_true rfl) rfl rfl (fun g4 z4 e4 o4 => ?_)
  refine sw_aload_n dX3_init_20 rfl ?_
  refine sw_bipush (v := 8) dX3_init_21 (by decide) ?_
  refine sw_na (N := 8) (q := 6) dX3_init_23 (by omega) (by decide) (by decide) (by decide) hal (by omega) (by decide) (by decide) (fun g5 z5 e5 o5 => ?_)
  refine sw_pF dX3_init_25 fl_X3_18 rfl (fun r hr => by cases hr; rfl) ((o5 3 (by omega)).trans e4) (Nat.le_of_ble_eq_true rfl) rfl rfl (fun g6 z6 e6 o6 => ?_)
  refine sw_aload_n dX3_init_28 rfl ?_
  refine sw_bipush (v := 8) dX3_init_29 (by decide) ?_
  refine sw_na (N := 8) (q := 7) dX3_init_31 (by omega) (by decide) (by decide) (by decide) hal (by omega) (by decide) (by decide) (fun g7 z7 e7 o7 => ?_)
  refine sw_pF dX3_init_33 fl_X3_21 rfl (fun r hr => by cases hr; rfl) ((o7 3 (by omega)).trans e6) (Nat.le_of_ble_eq_true rfl) rfl rfl (fun g8 z8 e8 o8 => ?_)
  refine sw_aload_n dX3_init_36 rfl ?_
  refine sw_bipush (v := 8) dX3_init_37 (by decide) ?_
  refine sw_na (N := 8) (q := 8) dX3_init_39 (by omega) (by decide) (by decide) (by decide) hal (by omega) (by decide) (by decide) (fun g9 z9 e9 o9 => ?_)
  refine sw_pF dX3_init_41 fl_X3_24 rfl (fun r hr => by cases hr; rfl) ((o9 3 (by omega)).trans e8) (Nat.le_of_ble_eq_true rfl) rfl rfl (fun g10 z10 e10 o10 => ?_)
  have f8 : g10[8]? = _ := (o10 _ (by omega)).trans e9
  have k8 : ∀ j, j < 8 → j ≠ 3 → g10[j]? = g7[j]? := fun j a b => (o10 _ (by omega)).trans ((o9 _ (by omega)).trans (o8 _ (by omega)))
  have k6 : ∀ j, j < 7 → j ≠ 3 → g10[j]? = g5[j]? := fun j a b => (k8 j (by omega) b).trans ((o7 _ (by omega)).trans (o6 _ (by omega)))
  have k4 : ∀ j, j < 6 → j ≠ 3 → g10[j]? = g3[j]? := fun j a b => (k6 j (by omega) b).trans ((o5 _ (by omega)).trans (o4 _ (by omega)))
  have k2 : ∀ j, j < 5 → j ≠ 3 → g10[j]? = g1[j]? := fun j a b => (k4 j (by omega) b).trans ((o3 _ (by omega)).trans (o2 _ (by omega)))
  exact sw_return dX3_init_44 rfl (⟨rfl, by omega, ⟨e10, ⟨_, (k2 4 (by omega) (by omega)).trans e1⟩, ⟨_, (k4 5 (by omega) (by omega)).trans e3⟩, ⟨_, (k6 6 (by omega) (by omega)).trans e5⟩, ⟨_, (k8 7 (by omega) (by omega)).trans e7⟩, ⟨_, f8⟩⟩, fun j hj => (k2 j (by omega) (by omega)).trans (o1 _ (by omega))⟩)
theorem i_tel {G : SG} {d : Nat} {h : AH} (hal : sg_al G = true) (hk : h[73]? = some (.inr (4, [.int 0, .null, .null, .null, .int 0, .int 0, .int 0]))) (hl : h.length = 74) : SW G mX5_init (d + 1) 1 3 0 [.ref 73, .ref 1] [] h (fun r h' => r = none ∧ h'.length = 75 ∧ TelK h' 0 0 (0, 0, 0) (fun _ => 0) ∧ ∀ j, j < 73 → h'[j]? = h[j]?) := by
  refine sw_aload_n dX5_init_0 rfl ?_
  refine sw_objInit dX5_init_1 w_176 w_30 w_31 (Nat.le_of_ble_eq_true rfl) ?_
  refine sw_aload_n dX5_init_4 rfl ?_
  refine sw_iconst (v := 0) dX5_init_5 (by decide) ?_
  refine sw_puti dX5_init_6 fl_X5_9 (hk) (Nat.le_of_ble_eq_true rfl) (fun g1 z1 e1 o1 => ?_)
  refine sw_aload_n dX5_init_9 rfl ?_
  refine sw_gets (v := .ref 1000) dX5_init_10 w_177 (by decide +kernel) ?_
  refine sw_puta dX5_init_13 fl_X5_21 (e1) (Nat.le_of_ble_eq_true rfl) (fun g2 z2 e2 o2 => ?_)
  refine sw_aload_n dX5_init_16 rfl ?_
  refine sw_iconst (v := 3) dX5_init_17 (by decide) ?_
  refine sw_na (N := 3) (q := 74) dX5_init_18 (by omega) (by decide) (by decide) (by decide) hal (by omega) (by decide) (by decide) (fun g3 z3 e3 o3 => ?_)
  refine sw_pF dX5_init_20 fl_X5_24 rfl (fun r hr => by cases hr; rfl) ((o3 73 (by omega)).trans e2) (Nat.le_of_ble_eq_true rfl) rfl rfl (fun g4 z4 e4 o4 => ?_)
  refine sw_aload_n dX5_init_23 rfl ?_
  refine sw_iconst (v := 0) dX5_init_24 (by decide) ?_
  refine sw_puti dX5_init_25 fl_X5_28 (e4) (Nat.le_of_ble_eq_true rfl) (fun g5 z5 e5 o5 => ?_)
  refine sw_aload_n dX5_init_28 rfl ?_
  refine sw_iconst (v := 0) dX5_init_29 (by decide) ?_
  refine sw_puti dX5_init_30 fl_X5_31 (e5) (Nat.le_of_ble_eq_true rfl) (fun g6 z6 e6 o6 => ?_)
  refine sw_aload_n dX5_init_33 rfl ?_
  refine sw_iconst (v := 0) dX5_init_34 (by decide) ?_
  refine sw_puti dX5_init_35 fl_X5_34 (e6) (Nat.le_of_ble_eq_true rfl) (fun g7 z7 e7 o7 => ?_)
  refine sw_aload_n dX5_init_38 rfl ?_
  refine sw_aload_n dX5_init_39 rfl ?_
  refine sw_pF dX5_init_40 fl_X5_37 rfl (fun r hr => by cases hr; rfl) (e7) (Nat.le_of_ble_eq_true rfl) rfl rfl (fun g8 z8 e8 o8 => ?_)
  have oo : ∀ j, j ≠ 73 → g8[j]? = g3[j]? := fun j hj => (o8 j hj).trans ((o7 j hj).trans ((o6 j hj).trans ((o5 j hj).trans (o4 j hj))))
  exact sw_return dX5_init_43 rfl (⟨rfl, by omega, ⟨⟨e8, (oo 74 (by omega)).trans e3, by omega⟩, by show 0 ≤ 5; omega⟩, fun j hj => (oo j (by omega)).trans ((o3 j (by omega)).trans ((o2 j (by omega)).trans (o1 j (by omega))))⟩)
def S0c : CS := (W0, fun _ => 0, 0, 0)
set_option maxHeartbeats 16000000 in
theorem i_cls {G : SG} {d : Nat} {h : AH} (hal : sg_al G = true) (hk : h[0]? = some (.inr (6, [.null, .null, .null, .null, .null]))) (hl : h.length = 1) : SW G mX8_init (d + 4) 74 1981 0 [.ref 0] [] h (fun r h' => r = none ∧ h'.length = 75 ∧ CA h' S0c) := by
  refine sw_aload_n dX8_init_0 rfl ?_
  refine sw_objInit dX8_init_1 w_29 w_30 w_31 (Nat.le_of_ble_eq_true rfl) ?_
  refine sw_aload_n dX8_init_4 rfl ?_
  refine sw_nw (N := 2) (q := 1) dX8_init_5 nw_Tape (by omega) rfl rfl hal (by omega) (by decide) (by decide) (fun g1 z1 e1 o1 => ?_)
  refine sw_dup dX8_init_8 rfl ?_
  refine sw_ctn0 dX8_init_9 ct_X8_9 (i_tape hal e1 (by omega)) (by decide) (by decide) (fun r g2 hr => ?_)
  obtain ⟨rfl, z2, hT, o2⟩ := hr
  refine sw_pF dX8_init_12 fl_X8_10 rfl (fun r hr => by cases hr; rfl) ((o2 0 (by decide)).trans ((o1 0 (by decide)).trans hk)) (Nat.le_of_ble_eq_true rfl) rfl rfl (fun g3 z3 e3 o3 => ?_)
  have hT := hT.kept (h' := g3) (fun j x y => o3 j (by omega))
  refine sw_aload_n dX8_init_15 rfl ?_
  refine sw_nw (N := 5) (q := 3) dX8_init_16 nw_Tabs (by omega) rfl rfl hal (by omega) (by decide) (by decide) (fun g4 z4 e4 o4 => ?_)
  refine sw_dup dX8_init_19 rfl ?_
  refine sw_ctn0 dX8_init_20 ct_X8_18 (i_tabs hal e4 (by omega)) (by decide) (by decide) (fun r g5 hr => ?_)
  obtain ⟨rfl, z5, hB, o5⟩ := hr
  have hT := hT.kept (h' := g5) (fun j x y => (o5 j (by omega)).trans (o4 j (by omega)))
  refine sw_pF dX8_init_23 fl_X8_19 rfl (fun r hr => by cases hr; rfl) ((o5 0 (by decide)).trans ((o4 0 (by decide)).trans e3)) (Nat.le_of_ble_eq_true rfl) rfl rfl (fun g6 z6 e6 o6 => ?_)
  have hT := hT.kept (h' := g6) (fun j x y => o6 j (by omega))
  have hB := hB.kept (h' := g6) (fun j x y => o6 j (by omega))
  refine sw_aload_n dX8_init_26 rfl ?_
  refine sw_nw (N := 9) (q := 9) dX8_init_27 nw_World (by omega) rfl rfl hal (by omega) (by decide) (by decide) (fun g7 z7 e7 o7 => ?_)
  have f7 := (o7 0 (by decide)).trans e6
  refine sw_dup dX8_init_30 rfl ?_
  refine sw_aload_n dX8_init_31 rfl ?_
  refine sw_getf dX8_init_32 fl_X8_19 (f7) rfl ?_
  refine sw_ct1 dX8_init_35 ct_X8_25 (i_world hal e7 (by omega) (by omega)) (by decide) (by decide) (fun r g8 hr => ?_)
  obtain ⟨rfl, z8, hW, o8⟩ := hr
  have k8 : ∀ j, j < 9 → g8[j]? = g6[j]? := fun j hj => (o8 j (by omega)).trans (o7 j (by omega))
  have hT := hT.kept (h' := g8) (fun j x y => k8 j (by omega))
  have hB := hB.kept (h' := g8) (fun j x y => k8 j (by omega))
  refine sw_puta dX8_init_38 fl_X8_28 ((k8 0 (by decide)).trans e6) (Nat.le_of_ble_eq_true rfl) (fun g9 z9 e9 o9 => ?_)
  have hT := hT.kept (h' := g9) (fun j x y => o9 j (by omega))
  have hB := hB.kept (h' := g9) (fun j x y => o9 j (by omega))
  have hW := hW.kept (h' := g9) (fun j x y => o9 j (by omega))
  refine sw_aload_n dX8_init_41 rfl ?_
  refine sw_nw (N := 9) (q := 41) dX8_init_42 nw_World (by omega) rfl rfl hal (by omega) (by decide) (by decide) (fun g10 z10 e10 o10 => ?_)
  have f10 := (o10 0 (by decide)).trans e9
  refine sw_dup dX8_init_45 rfl ?_
  refine sw_aload_n dX8_init_46 rfl ?_
  refine sw_getf dX8_init_47 fl_X8_19 (f10) rfl ?_
  refine sw_ct1 dX8_init_50 ct_X8_25 (i_world hal e10 (by omega) (by omega)) (by decide) (by decide) (fun r g11 hr => ?_)
  obtain ⟨rfl, z11, hQ, o11⟩ := hr
  have k11 : ∀ j, j < 41 → g11[j]? = g9[j]? := fun j hj => (o11 j (by omega)).trans (o10 j (by omega))
  have hT := hT.kept (h' := g11) (fun j x y => k11 j (by omega))
  have hB := hB.kept (h' := g11) (fun j x y => k11 j (by omega))
  have hW := hW.kept (h' := g11) (fun j x y => k11 j (by omega))
  refine sw_puta dX8_init_53 fl_X8_32 ((k11 0 (by decide)).trans e9) (Nat.le_of_ble_eq_true rfl) (fun g12 z12 e12 o12 => ?_)
  have hT := hT.kept (h' := g12) (fun j x y => o12 j (by omega))
  have hB := hB.kept (h' := g12) (fun j x y => o12 j (by omega))
  have hW := hW.kept (h' := g12) (fun j x y => o12 j (by omega))
  have hQ := hQ.kept (h' := g12) (fun j x y => o12 j (by omega))
  refine sw_aload_n dX8_init_56 rfl ?_
  refine sw_nw (N := 7) (q := 73) dX8_init_57 nw_Tel (by omega) rfl rfl hal (by omega) (by decide) (by decide) (fun g13 z13 e13 o13 => ?_)
  have f13 := (o13 0 (by decide)).trans e12
  refine sw_dup dX8_init_60 rfl ?_
  refine sw_aload_n dX8_init_61 rfl ?_
  refine sw_getf dX8_init_62 fl_X8_10 (f13) rfl ?_
  refine sw_ct1 dX8_init_65 ct_X8_37 (i_tel hal e13 (by omega)) (by decide) (by decide) (fun r g14 hr => ?_)
  obtain ⟨rfl, z14, hL, o14⟩ := hr
  have k14 : ∀ j, j < 73 → g14[j]? = g12[j]? := fun j hj => (o14 j (by omega)).trans (o13 j (by omega))
  have hT := hT.kept (h' := g14) (fun j x y => k14 j (by omega))
  have hB := hB.kept (h' := g14) (fun j x y => k14 j (by omega))
  have hW := hW.kept (h' := g14) (fun j x y => k14 j (by omega))
  have hQ := hQ.kept (h' := g14) (fun j x y => k14 j (by omega))
  refine sw_pF dX8_init_68 fl_X8_40 rfl (fun r hr => by cases hr; rfl) ((k14 0 (by decide)).trans e12) (Nat.le_of_ble_eq_true rfl) rfl rfl (fun g15 z15 e15 o15 => ?_)
  have hT := hT.kept (h' := g15) (fun j x y => o15 j (by omega))
  have hB := hB.kept (h' := g15) (fun j x y => o15 j (by omega))
  have hW := hW.kept (h' := g15) (fun j x y => o15 j (by omega))
  have hQ := hQ.kept (h' := g15) (fun j x y => o15 j (by omega))
  have hL := hL.kept (o15 73 (by decide)) (o15 74 (by decide))
  exact sw_return dX8_init_71 rfl (⟨rfl, by omega, 9, 41, 0, (0, 0, 0), fun _ => 0, Or.inl ⟨rfl, rfl⟩, e15, hW, hQ.S, hT, hL, hB⟩)
def f0m : Nat → Int32 := upd (upd (upd (fun _ => 0) 0 7) 3 8) 4 20
set_option maxHeartbeats 16000000 in
theorem i_mod {G : SG} {d : Nat} {h : AH} (hal : sg_al G = true) (hk : h[75]? = some (.inr (7, [.int 0, .null, .null, .null, .null, .null, .null, .null, .null, .int 0, .int 0, .int 0, .int 0, .int 0, .int 0, .int 0, .int 0]))) (hl : h.length = 76) : SW G mX9_init (d + 1) 8 1900 0 [.ref 75] [] h (fun r h' => r = none ∧ h'.length = 84 ∧ (MoAt h' (0, 0, 0, 0, 0, 0, 0, 0, 0) ∧ RoAt h' f0m ∧ (∃ t : Nat → Int32, h'[77]? = some (.inl (0, 641, .inl t))) ∧ SC h' ∧ h'[83]? = some (.inl (0, 400, .inl (fun _ => 0)))) ∧ ∀ j, j < 75 → h'[j]? = h[j]?) := by
  refine sw_aload_n dX9_init_0 rfl ?_
  refine sw_objInit dX9_init_1 w_750 w_30 w_31 (Nat.le_of_ble_eq_true rfl) ?_
  refine sw_aload_n dX9_init_4 rfl ?_
  refine sw_sipush (v := 641) dX9_init_5 (by decide) ?_
  refine sw_na (N := 641) (q := 76) dX9_init_8 (by omega) (by decide) (by decide) (by decide) hal (by omega) (by decide) (by decide) (fun g1 z1 e1 o1 => ?_)
  refine sw_pF dX9_init_10 fl_X9_7 rfl (fun r hr => by cases hr; rfl) ((o1 75 (by decide)).trans hk) (Nat.le_of_ble_eq_true rfl) rfl rfl (fun g2 z2 e2 o2 => ?_)
  refine sw_aload_n dX9_init_13 rfl ?_
  refine sw_sipush (v := 641) dX9_init_14 (by decide) ?_
  refine sw_na (N := 641) (q := 77) dX9_init_17 (by omega) (by decide) (by decide) (by decide) hal (by omega) (by decide) (by decide) (fun g3 z3 e3 o3 => ?_)
  refine sw_pF dX9_init_19 fl_X9_13 rfl (fun r hr => by cases hr; rfl) ((o3 75 (by decide)).trans e2) (Nat.le_of_ble_eq_true rfl) rfl rfl (fun g4 z4 e4 o4 => ?_)
  refine sw_aload_n dX9_init_22 rfl ?_
  refine sw_bipush (v := 97) dX9_init_23 (by decide) ?_
  refine sw_na (N := 97) (q := 78) dX9_init_25 (by omega) (by decide) (by decide) (by decide) hal (by omega) (by decide) (by decide) (fun g5 z5 e5 o5 => ?_)
  refine sw_pF dX9_init_27 fl_X9_16 rfl (fun r hr => by cases hr; rfl) ((o5 75 (by decide)).trans e4) (Nat.le_of_ble_eq_true rfl) rfl rfl (fun g6 z6 e6 o6 => ?_)
  refine sw_aload_n dX9_init_30 rfl ?_
  refine sw_bipush (v := 97) dX9_init_31 (by decide) ?_
  refine sw_na (N := 97) (q := 79) dX9_init_33 (by omega) (by decide) (by decide) (by decide) hal (by omega) (by decide) (by decide) (fun g7 z7 e7 o7 => ?_)
  refine sw_pF dX9_init_35 fl_X9_19 rfl (fun r hr => by cases hr; rfl) ((o7 75 (by decide)).trans e6) (Nat.le_of_ble_eq_true rfl) rfl rfl (fun g8 z8 e8 o8 => ?_)
  refine sw_aload_n dX9_init_38 rfl ?_
  refine sw_bipush (v := 8) dX9_init_39 (by decide) ?_
  refine sw_nz (N := 8) (q := 80) dX9_init_41 (by omega) (by decide) (by decide) (by decide) hal (by omega) (by decide) (by decide) (fun g9 z9 e9 o9 => ?_)
  refine sw_pF dX9_init_43 fl_X9_22 rfl (fun r hr => by cases hr; rfl) ((o9 75 (by decide)).trans e8) (Nat.le_of_ble_eq_true rfl) rfl rfl (fun g10 z10 e10 o10 => ?_)
  refine sw_aload_n dX9_init_46 rfl ?_
  refine sw_bipush (v := 8) dX9_init_47 (by decide) ?_
  refine sw_na (N := 8) (q := 81) dX9_init_49 (by omega) (by decide) (by decide) (by decide) hal (by omega) (by decide) (by decide) (fun g11 z11 e11 o11 => ?_)
  refine sw_pF dX9_init_51 fl_X9_26 rfl (fun r hr => by cases hr; rfl) ((o11 75 (by decide)).trans e10) (Nat.le_of_ble_eq_true rfl) rfl rfl (fun g12 z12 e12 o12 => ?_)
  refine sw_aload_n dX9_init_54 rfl ?_
  refine sw_bipush (v := 8) dX9_init_55 (by decide) ?_
  refine sw_na (N := 8) (q := 82) dX9_init_57 (by omega) (by decide) (by decide) (by decide) hal (by omega) (by decide) (by decide) (fun g13 z13 e13 o13 => ?_)
  refine sw_pF dX9_init_59 fl_X9_29 rfl (fun r hr => by cases hr; rfl) ((o13 75 (by decide)).trans e12) (Nat.le_of_ble_eq_true rfl) rfl rfl (fun g14 z14 e14 o14 => ?_)
  refine sw_aload_n dX9_init_62 rfl ?_
  refine sw_sipush (v := 400) dX9_init_63 (by decide) ?_
  refine sw_na (N := 400) (q := 83) dX9_init_66 (by omega) (by decide) (by decide) (by decide) hal (by omega) (by decide) (by decide) (fun g15 z15 e15 o15 => ?_)
  refine sw_pF dX9_init_68 fl_X9_32 rfl (fun r hr => by cases hr; rfl) ((o15 75 (by decide)).trans e14) (Nat.le_of_ble_eq_true rfl) rfl rfl (fun g16 z16 e16 o16 => ?_)
  have f83 := (o16 83 (by decide)).trans e15
  have k14 : ∀ j, j < 83 → j ≠ 75 → g16[j]? = g13[j]? := fun j a b => (o16 _ (by omega)).trans ((o15 _ (by omega)).trans (o14 _ (by omega)))
  have k12 : ∀ j, j < 82 → j ≠ 75 → g16[j]? = g11[j]? := fun j a b => (k14 j (by omega) b).trans ((o13 _ (by omega)).trans (o12 _ (by omega)))
  have k10 : ∀ j, j < 81 → j ≠ 75 → g16[j]? = g9[j]? := fun j a b => (k12 j (by omega) b).trans ((o11 _ (by omega)).trans (o10 _ (by omega)))
  have k8 : ∀ j, j < 80 → j ≠ 75 → g16[j]? = g7[j]? := fun j a b => (k10 j (by omega) b).trans ((o9 _ (by omega)).trans (o8 _ (by omega)))
  have k6 : ∀ j, j < 79 → j ≠ 75 → g16[j]? = g5[j]? := fun j a b => (k8 j (by omega) b).trans ((o7 _ (by omega)).trans (o6 _ (by omega)))
  have k4 : ∀ j, j < 78 → j ≠ 75 → g16[j]? = g3[j]? := fun j a b => (k6 j (by omega) b).trans ((o5 _ (by omega)).trans (o4 _ (by omega)))
  have k2 : ∀ j, j < 77 → j ≠ 75 → g16[j]? = g1[j]? := fun j a b => (k4 j (by omega) b).trans ((o3 _ (by omega)).trans (o2 _ (by omega)))
  have f76 := (k2 76 (by decide) (by decide)).trans e1
  refine sw_aload_n dX9_init_71 rfl ?_
  refine sw_getf dX9_init_72 fl_X9_7 (e16) rfl ?_
  refine sw_iconst (v := 0) dX9_init_75 (by decide) ?_
  refine sw_bipush (v := 7) dX9_init_76 (by decide) ?_
  refine sw_iast dX9_init_78 (f76) (vp_in_nI (n := 0) (by decide) (by decide)) (fun g17 z17 e17 o17 => ?_)
  have h17 := (o17 75 (by decide)).trans e16
  refine sw_aload_n dX9_init_79 rfl ?_
  refine sw_getf dX9_init_80 fl_X9_7 (h17) rfl ?_
  refine sw_iconst (v := 3) dX9_init_83 (by decide) ?_
  refine sw_bipush (v := 8) dX9_init_84 (by decide) ?_
  refine sw_iast dX9_init_86 (e17) (vp_in_nI (n := 3) (by decide) (by decide)) (fun g18 z18 e18 o18 => ?_)
  have h18 := (o18 75 (by decide)).trans h17
  refine sw_aload_n dX9_init_87 rfl ?_
  refine sw_getf dX9_init_88 fl_X9_7 (h18) rfl ?_
  refine sw_iconst (v := 4) dX9_init_91 (by decide) ?_
  refine sw_bipush (v := 20) dX9_init_92 (by decide) ?_
  refine sw_iast dX9_init_94 (e18) (vp_in_nI (n := 4) (by decide) (by decide)) (fun g19 z19 e19 o19 => ?_)
  have h19 := (o19 75 (by decide)).trans h18
  have oo : ∀ j, j ≠ 76 → g19[j]? = g16[j]? := fun j hj => (o19 j hj).trans ((o18 j hj).trans (o17 j hj))
  exact sw_return dX9_init_95 rfl (⟨rfl, by omega, ⟨h19, e19, ⟨_, (oo 77 (by decide)).trans ((k4 77 (by decide) (by decide)).trans e3)⟩, ⟨⟨_, (oo 78 (by decide)).trans ((k6 78 (by decide) (by decide)).trans e5)⟩, ⟨_, (oo 79 (by decide)).trans ((k8 79 (by decide) (by decide)).trans e7)⟩, ⟨_, (oo 80 (by decide)).trans ((k10 80 (by decide) (by decide)).trans e9)⟩, ⟨_, (oo 81 (by decide)).trans ((k12 81 (by decide) (by decide)).trans e11)⟩, ⟨_, (oo 82 (by decide)).trans ((k14 82 (by decide) (by decide)).trans e13)⟩⟩, (oo 83 (by decide)).trans f83⟩, fun j hj => (oo j (by omega)).trans ((k2 j (by omega) (by omega)).trans (o1 j (by omega)))⟩)
theorem RM0 {h : AH} (H : MoAt h (0, 0, 0, 0, 0, 0, 0, 0, 0) ∧ RoAt h f0m ∧ (∃ t : Nat → Int32, h[77]? = some (.inl (0, 641, .inl t))) ∧ SC h ∧ h[83]? = some (.inl (0, 400, .inl (fun _ => 0)))) : RM h S0c 0 := by
  refine ⟨(0, 0, 0, 0, 0, 0, 0, 0, 0), f0m, fun _ => 0, H, ?_, ?_, ⟨rfl, rfl⟩, Nat.zero_le _, fun j hj => absurd hj (Nat.not_lt_zero j)⟩
  · have z : ∀ j, 5 ≤ j → f0m j = 0 := fun j hj => by
      unfold f0m
      rw [upd_ne (by omega), upd_ne (by omega), upd_ne (by omega)]
    refine ⟨⟨rfl, rfl, rfl, rfl, rfl⟩, fun b hb => ⟨z _ (by omega), z _ (by omega)⟩, fun g hg => ⟨fun b hb => z _ (by omega), z _ (by omega), fun q => absurd rfl q⟩, fun g hg => ⟨[], ⟨z _ (by omega), by show 0 ≤ 16; omega, fun k e he => by cases he⟩, List.Perm.refl _⟩⟩
  · exact ⟨0, 20, 8, Nat.le_refl _, by show 7 ∈ szN; decide, by show 0 ≤ 8; omega, fun b hb => absurd hb (Nat.not_lt_zero b), by omega, by omega, ⟨rfl, rfl, rfl⟩, fun g hg => ⟨fun b _ _ => rfl, Or.inl rfl, fun q => absurd rfl q, by show Srt []; exact List.Pairwise.nil, by show 0 ≤ 8; omega, fun e he => by cases he⟩⟩
