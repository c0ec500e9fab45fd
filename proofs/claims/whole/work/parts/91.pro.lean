/-! the law's beginning: cells are made -/
def ELw (G : SG) : EX := (fun _ => True, fun below _ s mc ms t => ∃ o, t.status = .running ∧ Ended t below o ∧ o = .returned (some (.int 1)) ∧ ∃ L, FrameEnd s o t L mc ms ∧ ∀ q ∈ L, sg_A G q.base)
abbrev tG (D : va_G) (t : Nat → ClassId) (o : Nat) (r : Nat → Nat) (f : Value) (b : Bool) (x : Nat × Nat × (Nat → Int32)) : SG := (D, t, o, r, f, b, x)
theorem tG_tr {D : va_G} {t : Nat → ClassId} {o : Nat} {r : Nat → Nat} {f : Value} {x : Nat × Nat × (Nat → Int32)} : sg_tr (tG D t o r f true x) = sg_tr (tG D t o r f false x) := by
  funext v
  cases v <;> rfl
theorem tG_te {D : va_G} {t : Nat → ClassId} {o : Nat} {r : Nat → Nat} {f : Value} {x : Nat × Nat × (Nat → Int32)} : sg_te (tG D t o r f true x) = sg_te (tG D t o r f false x) := by
  funext e
  rcases e with ⟨a, n, g | g | g⟩ | ⟨c, fs⟩
  · rfl
  · rfl
  · rfl
  · show (Sum.inr (c, fs.map (sg_tr _)) : va_E) = Sum.inr (c, fs.map (sg_tr _))
    rw [tG_tr]
theorem tG_en {D : va_G} {t : Nat → ClassId} {o : Nat} {r : Nat → Nat} {f : Value} {x : Nat × Nat × (Nat → Int32)} {h : AH} : sg_en (tG D t o r f true x) h = sg_en (tG D t o r f false x) h := by
  unfold sg_en
  rw [tG_te]
theorem tG_E {D : va_G} {t : Nat → ClassId} {o : Nat} {r : Nat → Nat} {f : Value} {x : Nat × Nat × (Nat → Int32)} {U : State} (h : sg_E (tG D t o r f true x) U) : sg_E (tG D t o r f false x) U := by
  unfold sg_E at h ⊢
  rw [tG_tr] at h
  exact h
theorem tG_L {D : va_G} {t : Nat → ClassId} {o : Nat} {r : Nat → Nat} {f : Value} {x : Nat × Nat × (Nat → Int32)} {L : List Value} {n : Nat} {ls : Array Slot} (h : sg_L (tG D t o r f true x) L n ls) : sg_L (tG D t o r f false x) L n ls := by
  unfold sg_L at h ⊢
  rw [tG_tr] at h
  exact h
theorem SX.al {D : va_G} {t : Nat → ClassId} {o : Nat} {r : Nat → Nat} {f : Value} {x : Nat × Nat × (Nat → Int32)} {y : MI} {d bc bs pc : Nat} {L : List Value} {h : AH} (k : SW (tG D t o r f false x) y d bc bs pc L [] h (fun r _ => r = some (.int 1))) : SX (tG D t o r f true x) y d bc bs pc L [] h (ELw (tG D t o r f true x)) := by
  intro p l e R s m args below meth c H locs ls cells slots mc ms hX C h1 h2 h3 h4 hI hS hL
  obtain ⟨c1, c2, c3, c4, c5, c6, c7, c8, c9, c10, c11, c12⟩ := C
  have hI' : sg_I (tG D t o r f false x) h H := ⟨by rw [← tG_en]; exact hI.1, hI.2.1, hI.2.2.1, fun q => by cases q⟩
  intro T hT X
  obtain ⟨u, a, oc, b1, b2, ⟨⟨r1, h', e1, -, e2⟩, -⟩, b4⟩ := k p l e R s m args below meth c H locs ls cells slots mc ms ⟨c1, c2, c3, c4, c5, c6, c7, tG_E c8, c9, c10, c11, c12⟩ h1 h2 h3 h4 hI' hS (tG_L hL) T hT X
  subst e2
  exact ⟨u, a, oc, b1, b2, e1, b4⟩
theorem SX.le {G : SG} {y : MI} {d bc bs bc' bs' pc : Nat} {L st : List Value} {h : AH} {E : EX} (k : SX G y d bc bs pc L st h E) (h1 : bc ≤ bc') (h2 : bs ≤ bs') : SX G y d bc' bs' pc L st h E := by
  intro p l e R s m args below meth c H locs ls cells slots mc ms hX C g1 g2 g3 g4 hI hS hL
  exact k p l e R s m args below meth c H locs ls cells slots mc ms hX C (by omega) (by omega) g3 g4 hI hS hL
theorem law_start {D : va_G} {t : Nat → ClassId} {o : Nat} {r : Nat → Nat} {f : Value} {x : Nat × Nat × (Nat → Int32)} (hx : sg_ad (tG D t o r f false x) 1999 = x.1) (hN : x.2.1 ≤ 3072) : SX (tG D t o r f true x) mL_law 13 597 6976 0 [.ref 1999, .retAddr 0, .retAddr 0, .retAddr 0, .retAddr 0, .retAddr 0, .retAddr 0] [] [] (ELw (tG D t o r f true x)) := by
  refine SX.le (bc := 596 + 1) (bs := 6971 + ([.null, .null, .null, .null, .null] : List Value).length) (sx_new dL_law_0 nw_Cls rfl rfl (by decide) ?_) (by decide) (by decide)
  refine sx_dup dL_law_3 rfl ?_
  refine SX.le (bc := 522 + 74) (bs := 4990 + 1981) (sx_callI (d := 12) (st := [.ref 0]) [] dL_law_4 ct_L_15.1 ct_L_15.2.1 ct_L_15.2.2.1 ct_L_15.2.2.2.1 ct_L_15.2.2.2.2.1 ct_L_15.2.2.2.2.2.1 rfl ct_L_15.2.2.2.2.2.2 (fun v hv => by cases hv) rfl (Nat.le_of_ble_eq_true rfl) rfl (i_cls (d := 8) rfl rfl rfl) (fun rr g1 hr => ?_)) (by decide) (by decide)
  obtain ⟨rfl, z1, hC⟩ := hr
  refine sx_astore_n dL_law_7 (by decide) rfl ?_
  refine SX.le (bc := 521 + 1) (bs := 4973 + ([.int 0, .null, .null, .null, .null, .null, .null, .null, .null, .int 0, .int 0, .int 0, .int 0, .int 0, .int 0, .int 0, .int 0] : List Value).length) (sx_new dL_law_8 nw_Mod rfl rfl (by omega) ?_) (by decide) (by decide)
  rw [z1]
  obtain ⟨z2, e2, o2⟩ := ah_push (h := g1) (e := .inr (7, [.int 0, .null, .null, .null, .null, .null, .null, .null, .null, .int 0, .int 0, .int 0, .int 0, .int 0, .int 0, .int 0, .int 0])) z1
  generalize g1 ++ [.inr (7, [.int 0, .null, .null, .null, .null, .null, .null, .null, .null, .int 0, .int 0, .int 0, .int 0, .int 0, .int 0, .int 0, .int 0])] = g2 at z2 e2 o2 ⊢
  refine sx_dup dL_law_11 rfl ?_
  refine SX.le (bc := 513 + 8) (bs := 3073 + 1900) (sx_callI (d := 12) (st := [.ref 75]) [] dL_law_12 ct_L_18.1 ct_L_18.2.1 ct_L_18.2.2.1 ct_L_18.2.2.2.1 ct_L_18.2.2.2.2.1 ct_L_18.2.2.2.2.2.1 rfl ct_L_18.2.2.2.2.2.2 (fun v hv => by cases hv) rfl (Nat.le_of_ble_eq_true rfl) rfl (i_mod (d := 11) rfl e2 z2) (fun rr g3 hr => ?_)) (by decide) (by decide)
  obtain ⟨rfl, z3, H3, o3⟩ := hr
  refine sx_astore_n dL_law_15 (by decide) rfl ?_
  refine sx_iconst (v := 1) dL_law_16 (by decide) ?_
  refine SX.le (bc := 512 + 1) (bs := 3072 + 1) (sx_newal (N := 1) dL_law_17 w_1167 (by decide) (by decide) (by decide) rfl (by omega) ?_) (by decide) (by decide)
  rw [z3]
  obtain ⟨z4, e4, o4⟩ := ah_push (h := g3) (e := .inl (2, 1, .inr (.inl (fun _ => 0)))) z3
  generalize g3 ++ [.inl (2, 1, .inr (.inl (fun _ => 0)))] = g4 at z4 e4 o4 ⊢
  refine sx_astore_n dL_law_19 (by decide) rfl ?_
  refine sx_iconst (v := 0) dL_law_20 (by decide) ?_
  refine sx_istore dL_law_21 (by decide) rfl ?_
  have hV : LV g4 S0c 0 := ⟨(hC.K (h' := g2) (fun j hj => o2 j (by omega))).K (fun j hj => (o4 j (by omega)).trans (o3 j hj)), (RM0 H3).K (fun j a b => o4 j (by omega)), z4, _, e4⟩
  exact SX.al (law_loop rfl hx hN 512 0 512 3072 0 (.retAddr 0) (.retAddr 0) g4 S0c (by show x.2.1 < _; omega) (by omega) (by omega) (by omega) (by omega) hV)
