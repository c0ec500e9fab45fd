/-! the class as a whole: world, tape, its length, the fault -/
abbrev CS : Type := WS × (Nat → Int32) × Nat × Int32
def CB (h : AH) (b q vb : Nat) (K : K3) (nm : Nat → Int32) (s : CS) : Prop := (b = 9 ∧ q = 41 ∨ b = 41 ∧ q = 9) ∧ h[0]? = some (.inr (6, [.ref 1, .ref 3, .ref b, .ref q, .ref 73])) ∧ WorldAt h b s.1 ∧ WorldS h q ∧ TapeAt h s.2.1 s.2.2.1 ∧ TelK h s.2.2.2 vb K nm ∧ TabAt h
def CA (h : AH) (s : CS) : Prop := ∃ b q vb K nm, CB h b q vb K nm s
def SameC (h h' : AH) : Prop := h'.length = h.length ∧ ∀ j, 75 ≤ j → h'[j]? = h[j]?
theorem SameC.rf {h : AH} : SameC h h := ⟨rfl, fun _ _ => rfl⟩
theorem SameC.tr {h h1 h2 : AH} (a : SameC h h1) (b : SameC h1 h2) : SameC h h2 := ⟨b.1.trans a.1, fun j hj => (b.2 j hj).trans (a.2 j hj)⟩
def SameU (h h' : AH) (b : Nat) : Prop := h'.length = h.length ∧ ∀ j, (j < 3 ∨ 9 ≤ j) → (j < b ∨ b + 32 ≤ j) → h'[j]? = h[j]?
theorem SameU.rf {h : AH} {b : Nat} : SameU h h b := ⟨rfl, fun _ _ _ => rfl⟩
theorem SameU.tr {h h1 h2 : AH} {b : Nat} (x : SameU h h1 b) (y : SameU h1 h2 b) : SameU h h2 b := ⟨y.1.trans x.1, fun j p q => (y.2 j p q).trans (x.2 j p q)⟩
theorem SameT.U {h h' : AH} {b : Nat} (hS : SameT h h' b) : SameU h h' b := ⟨hS.1, fun j p q => hS.2 j (by omega) (by omega) (by omega) (by omega) q⟩
theorem SameW.U {h h' : AH} {b : Nat} (hS : SameW h h' b) : SameU h h' b := ⟨hS.1, fun j p q => hS.2 j q⟩
theorem SameM.U {h h' : AH} {b o : Nat} (hS : SameM h h' o) (ho : (3 ≤ o ∧ o < 9) ∨ (b ≤ o ∧ o < b + 32)) : SameU h h' b := ⟨hS.1, fun j p q => hS.2 j (by omega) (by omega) (by omega) (by omega)⟩
theorem TelK.kept {h h' : AH} {fo : Int32} {vb : Nat} {K : K3} {nm : Nat → Int32} (H : TelK h fo vb K nm) (h1 : h'[73]? = h[73]?) (h2 : h'[74]? = h[74]?) : TelK h' fo vb K nm := ⟨⟨h1.trans H.1.1, h2.trans H.1.2.1, H.1.2.2⟩, H.2⟩
theorem CB.U {h h' : AH} {b q vb : Nat} {K : K3} {nm : Nat → Int32} {s : CS} {w' : WS} (H : CB h b q vb K nm s) (hW : WorldAt h' b w') (hT : TabAt h') (hS : SameU h h' b) : CB h' b q vb K nm (w', s.2) ∧ SameC h h' := by
  obtain ⟨hbq, h0, -, hQ, hT', hL, -⟩ := H
  exact ⟨⟨hbq, (hS.2 0 (by omega) (by omega)).trans h0, hW, hQ.kept (fun j x y => hS.2 j (by omega) (by omega)), hT'.kept (fun j x y => hS.2 j (by omega) (by omega)), hL.kept (hS.2 73 (by omega) (by omega)) (hS.2 74 (by omega) (by omega)), hT⟩, hS.1, fun j hj => hS.2 j (by omega) (by omega)⟩
theorem CB.W {h h' : AH} {b q vb : Nat} {K : K3} {nm : Nat → Int32} {s : CS} {w' : WS} (H : CB h b q vb K nm s) (hW : WorldAt h' b w') (hS : SameW h h' b) : CA h' (w', s.2) ∧ SameC h h' := by
  have hb : 9 ≤ b := by have := H.1; omega
  obtain ⟨x, y⟩ := H.U hW (H.2.2.2.2.2.2.kept (fun j p q => hS.2 j (by omega))) hS.U
  exact ⟨⟨_, _, _, _, _, x⟩, y⟩
theorem CB.A {h : AH} {b q vb : Nat} {K : K3} {nm : Nat → Int32} {s : CS} (H : CB h b q vb K nm s) : CA h s := ⟨_, _, _, _, _, H⟩
theorem pkE {α β : Type} {x : α × β} {a : α} {c : β} (h : x = (a, c)) : x.1 = a ∧ x.2 = c := by subst h; exact ⟨rfl, rfl⟩
/-! the tape -/
def addT (tp : Nat → Int32) (n : Nat) (v : Int32) : Nat → Int32 := upd (upd (upd (upd tp n (ushr v 24 &&& 255)) (n + 1) (ushr v 16 &&& 255)) (n + 2) (ushr v 8 &&& 255)) (n + 3) (ushr v 0 &&& 255)
def SameP (h h' : AH) : Prop := h'.length = h.length ∧ ∀ j, j ≠ 1 → j ≠ 2 → h'[j]? = h[j]?
theorem SameP.rf {h : AH} : SameP h h := ⟨rfl, fun _ _ _ => rfl⟩
theorem SameP.tr {h h1 h2 : AH} (x : SameP h h1) (y : SameP h1 h2) : SameP h h2 := ⟨y.1.trans x.1, fun j p q => (y.2 j p q).trans (x.2 j p q)⟩
theorem tadd_1 {G : SG} {d n : Nat} {h : AH} {tp : Nat → Int32} {v kk kn : Int32} {P : Option Value → AH → Prop} (hk : ¬ kk < 0) (hkn : kk + (-8) = kn) (hT : TapeAt h tp n) (hn : n < 400) (k : ∀ h', SameP h h' → TapeAt h' (upd tp n (ushr v kk &&& 255)) (n + 1) → SW G mX4_add d 0 0 3 [.ref 1, .int v, .int kn] [] h' P) : SW G mX4_add d 0 0 3 [.ref 1, .int v, .int kk] [] h P := by
  have h1 := hT.1
  refine sw_iload_n dX4_add_3 rfl ?_
  refine sw_iflt (tgt := 51) dX4_add_4 (by decide) (fun hc => ?_) (fun hc => ?_)
  · exact absurd hc hk
  · refine sw_aload_n dX4_add_7 rfl ?_
    refine sw_getf dX4_add_8 fl_X4_15 (hT.1) rfl ?_
    refine sw_aload_n dX4_add_11 rfl ?_
    refine sw_getf dX4_add_12 fl_X4_9 (hT.1) rfl ?_
    refine sw_alen (v := 400) dX4_add_15 hT.2.1 (by decide) (by decide) ?_
    refine sw_cmpge (tgt := 51) dX4_add_16 (by decide) (fun hq => ?_) (fun hq => ?_)
    · exact absurd hq (nI_ge (b := 400) hn (by omega))
    · refine sw_aload_n dX4_add_19 rfl ?_
      refine sw_getf dX4_add_20 fl_X4_9 (hT.1) rfl ?_
      refine sw_aload_n dX4_add_23 rfl ?_
      refine sw_getf dX4_add_24 fl_X4_15 (hT.1) rfl ?_
      refine sw_iload_n dX4_add_27 rfl ?_
      refine sw_iload_n dX4_add_28 rfl ?_
      refine sw_iushr dX4_add_29 ?_
      refine sw_sipush (v := 255) dX4_add_30 (by decide) ?_
      refine sw_iand dX4_add_33 ?_
      refine sw_iast dX4_add_34 (hT.2.1) (vp_in_nI (by omega) (by omega)) (fun g1 z1 e1 o1 => ?_)
      rw [nIupd (by omega)] at e1
      have h1 := (o1 1 (by omega)).trans h1
      refine sw_aload_n dX4_add_35 rfl ?_
      refine sw_dup dX4_add_36 rfl ?_
      refine sw_getf dX4_add_37 fl_X4_15 (h1) rfl ?_
      refine sw_iconst (v := 1) dX4_add_40 (by decide) ?_
      refine sw_iadd dX4_add_41 ?_
      refine sw_puti dX4_add_42 fl_X4_15 (h1) (Nat.le_of_ble_eq_true rfl) (fun g2 z2 e2 o2 => ?_)
      rw [nI_1] at e2
      refine sw_iinc (v := kn) dX4_add_45 rfl (hkn) (by decide) rfl ?_
      refine sw_goto (tgt := 3) dX4_add_48 (by decide) ?_
      exact k _ ⟨z2.trans z1, fun j x y => (o2 j x).trans (o1 j y)⟩ ⟨e2, (o2 2 (by omega)).trans e1, by omega⟩
theorem m_tadd {G : SG} {d n : Nat} {h : AH} {tp : Nat → Int32} {v : Int32} (hT : TapeAt h tp n) (hn : n + 4 ≤ 400) : SW G mX4_add d 0 0 0 [.ref 1, .int v, .retAddr 0] [] h (fun r h' => r = none ∧ TapeAt h' (addT tp n v) (n + 4) ∧ SameP h h') := by
  refine sw_bipush (v := 24) dX4_add_0 (by decide) ?_
  refine sw_istore_n dX4_add_2 (by decide) rfl ?_
  refine tadd_1 (kn := 16) (by decide) (by decide) hT (by omega) (fun g1 S1 T1 => ?_)
  refine tadd_1 (kn := 8) (by decide) (by decide) T1 (by omega) (fun g2 S2 T2 => ?_)
  refine tadd_1 (kn := 0) (by decide) (by decide) T2 (by omega) (fun g3 S3 T3 => ?_)
  refine tadd_1 (kn := -8) (by decide) (by decide) T3 (by omega) (fun g4 S4 T4 => ?_)
  refine sw_iload_n dX4_add_3 rfl ?_
  refine sw_iflt (tgt := 51) dX4_add_4 (by decide) (fun hc => ?_) (fun hc => ?_)
  · exact sw_return dX4_add_51 rfl (⟨rfl, T4, S1.tr (S2.tr (S3.tr S4))⟩)
  · exact absurd (by decide) hc
theorem CB.P {h h' : AH} {b q vb : Nat} {K : K3} {nm : Nat → Int32} {s : CS} {tp : Nat → Int32} {n : Nat} (H : CB h b q vb K nm s) (hT : TapeAt h' tp n) (hS : SameP h h') : CB h' b q vb K nm (s.1, tp, n, s.2.2.2) ∧ SameC h h' := by
  obtain ⟨hbq, h0, hW, hQ, hT', hL, hB⟩ := H
  exact ⟨⟨hbq, (hS.2 0 (by omega) (by omega)).trans h0, hW.kept (fun j x y => hS.2 j (by omega) (by omega)), hQ.kept (fun j x y => hS.2 j (by omega) (by omega)), hT, hL.kept (hS.2 73 (by omega) (by omega)) (hS.2 74 (by omega) (by omega)), hB.kept (fun j x y => hS.2 j (by omega) (by omega))⟩, hS.1, fun j hj => hS.2 j (by omega) (by omega)⟩
def c_feed (s : CS) (a b c d e : Int32) : Int32 × CS := if 400 < s.2.2.1 + 20 then (-1, s) else (nI (s.2.2.1 + 20), (s.1, addT (addT (addT (addT (addT s.2.1 s.2.2.1 a) (s.2.2.1 + 4) b) (s.2.2.1 + 8) c) (s.2.2.1 + 12) d) (s.2.2.1 + 16) e, s.2.2.1 + 20, s.2.2.2))
theorem k_feed {G : SG} {d : Nat} {h : AH} {s : CS} {a b c dd e : Int32} (hC : CA h s) : SW G mX8_feed (d + 8) 0 0 0 [.ref 0, .int a, .int b, .int c, .int dd, .int e] [] h (fun r h' => r = some (.int (c_feed s a b c dd e).1) ∧ CA h' (c_feed s a b c dd e).2 ∧ SameC h h') := by
  obtain ⟨bb, q, vb, K, nm, H⟩ := hC
  obtain ⟨hbq, h0, hW, hQ, hT, hL, hB⟩ := id H
  have hn := hT.2.2
  refine sw_aload_n dX8_feed_0 rfl ?_
  refine sw_getf dX8_feed_1 fl_X8_10 (h0) rfl ?_
  refine sw_getf dX8_feed_4 fl_X8_44 (hT.1) rfl ?_
  refine sw_bipush (v := 20) dX8_feed_7 (by decide) ?_
  refine sw_iadd dX8_feed_9 ?_
  refine sw_sipush (v := 400) dX8_feed_10 (by decide) ?_
  refine sw_cmple (tgt := 18) dX8_feed_13 (by decide) (fun hc => ?_) (fun hc => ?_)
  · have hc : nI s.2.2.1 + nI 20 ≤ nI 400 := hc
    rw [nI_add, nI_leI (by omega) (by omega)] at hc
    have hf : c_feed s a b c dd e = (nI (s.2.2.1 + 20), (s.1, addT (addT (addT (addT (addT s.2.1 s.2.2.1 a) (s.2.2.1 + 4) b) (s.2.2.1 + 8) c) (s.2.2.1 + 12) dd) (s.2.2.1 + 16) e, s.2.2.1 + 20, s.2.2.2)) := by unfold c_feed; rw [if_neg (by omega)]
    rw [hf]
    refine sw_aload_n dX8_feed_18 rfl ?_
    refine sw_getf dX8_feed_19 fl_X8_10 (h0) rfl ?_
    refine sw_iload_n dX8_feed_22 rfl ?_
    refine sw_cv1 dX8_feed_23 cv_X8_48 (rc_of hT.1 rfl) (m_tadd hT (by omega)) (fun r g1 hr => ?_)
    obtain ⟨rfl, hT, S1⟩ := hr
    have h0 := (S1.2 0 (by omega) (by omega)).trans h0
    refine sw_aload_n dX8_feed_26 rfl ?_
    refine sw_getf dX8_feed_27 fl_X8_10 (h0) rfl ?_
    refine sw_iload_n dX8_feed_30 rfl ?_
    refine sw_cv1 dX8_feed_31 cv_X8_48 (rc_of hT.1 rfl) (m_tadd hT (by omega)) (fun r g2 hr => ?_)
    obtain ⟨rfl, hT, S2⟩ := hr
    have h0 := (S2.2 0 (by omega) (by omega)).trans h0
    refine sw_aload_n dX8_feed_34 rfl ?_
    refine sw_getf dX8_feed_35 fl_X8_10 (h0) rfl ?_
    refine sw_iload_n dX8_feed_38 rfl ?_
    refine sw_cv1 dX8_feed_39 cv_X8_48 (rc_of hT.1 rfl) (m_tadd hT (by omega)) (fun r g3 hr => ?_)
    obtain ⟨rfl, hT, S3⟩ := hr
    have h0 := (S3.2 0 (by omega) (by omega)).trans h0
    refine sw_aload_n dX8_feed_42 rfl ?_
    refine sw_getf dX8_feed_43 fl_X8_10 (h0) rfl ?_
    refine sw_iload dX8_feed_46 rfl ?_
    refine sw_cv1 dX8_feed_48 cv_X8_48 (rc_of hT.1 rfl) (m_tadd hT (by omega)) (fun r g4 hr => ?_)
    obtain ⟨rfl, hT, S4⟩ := hr
    have h0 := (S4.2 0 (by omega) (by omega)).trans h0
    refine sw_aload_n dX8_feed_51 rfl ?_
    refine sw_getf dX8_feed_52 fl_X8_10 (h0) rfl ?_
    refine sw_iload dX8_feed_55 rfl ?_
    refine sw_cv1 dX8_feed_57 cv_X8_48 (rc_of hT.1 rfl) (m_tadd hT (by omega)) (fun r g5 hr => ?_)
    obtain ⟨rfl, hT, S5⟩ := hr
    have h0 := (S5.2 0 (by omega) (by omega)).trans h0
    obtain ⟨H1, HS⟩ := H.P hT (S1.tr (S2.tr (S3.tr (S4.tr S5))))
    refine sw_aload_n dX8_feed_60 rfl ?_
    refine sw_getf dX8_feed_61 fl_X8_10 (h0) rfl ?_
    refine sw_getf dX8_feed_64 fl_X8_44 (hT.1) rfl ?_
    exact sw_ireturn dX8_feed_67 rfl rfl (⟨rfl, H1.A, HS⟩)
  · have hc : ¬ nI s.2.2.1 + nI 20 ≤ nI 400 := hc
    rw [nI_add, nI_leI (by omega) (by omega)] at hc
    have hf : c_feed s a b c dd e = (-1, s) := by unfold c_feed; rw [if_pos (by omega)]
    rw [hf]
    refine sw_iconst (v := (-1)) dX8_feed_16 (by decide) ?_
    exact sw_ireturn dX8_feed_17 rfl rfl (⟨rfl, H.A, SameC.rf⟩)
def c_end (s : CS) (v : Int32) : Int32 × CS := if v < 0 then (0, s) else if v ≤ nI s.2.2.1 then (1, (s.1, s.2.1, v.toNatClampNeg, s.2.2.2)) else (0, s)
theorem k_end {G : SG} {d : Nat} {h : AH} {s : CS} {v : Int32} (hC : CA h s) : SW G mX8_end (d + 8) 0 0 0 [.ref 0, .int v] [] h (fun r h' => r = some (.int (c_end s v).1) ∧ CA h' (c_end s v).2 ∧ SameC h h') := by
  obtain ⟨bb, q, vb, K, nm, H⟩ := hC
  obtain ⟨hbq, h0, hW, hQ, hT, hL, hB⟩ := id H
  have hn := hT.2.2
  unfold c_end
  refine sw_iload_n dX8_end_0 rfl ?_
  refine sw_iflt (tgt := 15) dX8_end_1 (by decide) (fun h1 => ?_) (fun h1 => ?_)
  · rw [if_pos h1]
    refine sw_iconst (v := 0) dX8_end_15 (by decide) ?_
    exact sw_ireturn dX8_end_16 rfl rfl (⟨rfl, H.A, SameC.rf⟩)
  · rw [if_neg h1]
    refine sw_iload_n dX8_end_4 rfl ?_
    refine sw_aload_n dX8_end_5 rfl ?_
    refine sw_getf dX8_end_6 fl_X8_10 (h0) rfl ?_
    refine sw_getf dX8_end_9 fl_X8_44 (hT.1) rfl ?_
    refine sw_cmple (tgt := 17) dX8_end_12 (by decide) (fun h2 => ?_) (fun h2 => ?_)
    · rw [if_pos h2]
      obtain ⟨j, hj, rfl⟩ := nI_of h1
      rw [nI_leI hj (by omega)] at h2
      refine sw_aload_n dX8_end_17 rfl ?_
      refine sw_getf dX8_end_18 fl_X8_10 (h0) rfl ?_
      refine sw_iload_n dX8_end_21 rfl ?_
      refine sw_puti dX8_end_22 fl_X8_44 (hT.1) (Nat.le_of_ble_eq_true rfl) (fun g1 z1 e1 o1 => ?_)
      obtain ⟨H1, HS⟩ := H.P (h' := g1) (tp := s.2.1) (n := j) ⟨e1, (o1 2 (by omega)).trans hT.2.1, by omega⟩ ⟨z1, fun j x y => o1 j x⟩
      refine sw_iconst (v := 1) dX8_end_25 (by decide) ?_
      exact sw_ireturn dX8_end_26 rfl rfl (⟨rfl, by rw [nI_clamp hj]; exact H1.A, HS⟩)
    · rw [if_neg h2]
      refine sw_iconst (v := 0) dX8_end_15 (by decide) ?_
      exact sw_ireturn dX8_end_16 rfl rfl (⟨rfl, H.A, SameC.rf⟩)
theorem k_fault {G : SG} {d : Nat} {h : AH} {s : CS} (hC : CA h s) : SW G mX8_fault (d + 8) 0 0 0 [.ref 0] [] h (fun r h' => r = some (.int s.2.2.2) ∧ h' = h) := by
  obtain ⟨bb, q, vb, K, nm, H⟩ := hC
  obtain ⟨hbq, h0, hW, hQ, hT, hL, hB⟩ := id H
  refine sw_aload_n dX8_fault_0 rfl ?_
  refine sw_getf dX8_fault_1 fl_X8_40 (h0) rfl ?_
  refine sw_getf dX8_fault_4 fl_X8_79 (hL.1.1) rfl ?_
  exact sw_ireturn dX8_fault_7 rfl rfl (⟨rfl, rfl⟩)
def c_size (s : CS) (v : Int32) : Int32 × CS := if v = nI s.1.p then (0, s) else if isSz v = true then (1, (rszW s.1 v.toNatClampNeg, s.2)) else (0, s)
theorem isSz_pos {v : Int32} (h : isSz v = true) : ∃ p ∈ szN, v = nI p := by
  unfold isSz at h
  obtain ⟨p, hp, he⟩ := List.any_eq_true.mp h
  exact ⟨p, hp, (of_decide_eq_true he).symm⟩
theorem szN_rg : ∀ p ∈ szN, 2 < p ∧ p ≤ 97 := by decide +kernel
theorem k_size {G : SG} {d : Nat} {h : AH} {s : CS} {v : Int32} (hC : CA h s) : SW G mX8_size (d + 8) 0 0 0 [.ref 0, .int v] [] h (fun r h' => r = some (.int (c_size s v).1) ∧ CA h' (c_size s v).2 ∧ SameC h h') := by
  obtain ⟨b, q, vb, K, nm, H⟩ := hC
  obtain ⟨hbq, h0, hW, hQ, hT, hL, hB⟩ := id H
  unfold c_size
  refine sw_iload_n dX8_size_0 rfl ?_
  refine sw_aload_n dX8_size_1 rfl ?_
  refine sw_getf dX8_size_2 fl_X8_28 (h0) rfl ?_
  refine sw_getf dX8_size_5 fl_X8_82 (hW.1) rfl ?_
  refine sw_cmpeq (tgt := 18) dX8_size_8 (by decide) (fun h1 => ?_) (fun h1 => ?_)
  · rw [if_pos h1]
    refine sw_iconst (v := 0) dX8_size_18 (by decide) ?_
    exact sw_ireturn dX8_size_19 rfl rfl (⟨rfl, H.A, SameC.rf⟩)
  · rw [if_neg h1]
    refine sw_iload_n dX8_size_11 rfl ?_
    refine sw_pcs1 dX8_size_12 cs_X8_85 (m_isSize) ?_
    refine sw_ifne (tgt := 20) dX8_size_15 (by decide) (fun h2 => ?_) (fun h2 => ?_)
    · have h2 := bz_eq1.mp h2
      rw [if_pos h2]
      obtain ⟨p, hp, rfl⟩ := isSz_pos h2
      have hp2 := szN_rg p hp
      refine sw_aload_n dX8_size_20 rfl ?_
      refine sw_getf dX8_size_21 fl_X8_28 (h0) rfl ?_
      refine sw_iload_n dX8_size_24 rfl ?_
      refine sw_cv1 dX8_size_25 cv_X8_89 (rc_of hW.1 rfl) (m_resize hW) (fun r g1 hr => ?_)
      obtain ⟨rfl, hW1, hS1⟩ := hr
      obtain ⟨H1, HS⟩ := H.W hW1 hS1
      refine sw_iconst (v := 1) dX8_size_28 (by decide) ?_
      exact sw_ireturn dX8_size_29 rfl rfl (⟨rfl, by rw [nI_clamp (by omega)]; exact H1, HS⟩)
    · have h2 := bz_eq0.mp h2
      rw [if_neg h2]
      refine sw_iconst (v := 0) dX8_size_18 (by decide) ?_
      exact sw_ireturn dX8_size_19 rfl rfl (⟨rfl, H.A, SameC.rf⟩)
def c_back (s : CS) (key wgt : Int32) : Int32 × CS := if (0 ≤ key ∧ key ≤ 9999) ∧ (1 ≤ wgt ∧ wgt ≤ 9) ∧ ¬ hasK s.1.ks key s.1.n 0 = true then (if s.1.n < 8 then (nI s.1.n, (addW s.1 key wgt, s.2)) else (-2, s)) else (-1, s)
theorem k_back {G : SG} {d : Nat} {h : AH} {s : CS} {key wgt : Int32} (hC : CA h s) : SW G mX8_back (d + 8) 0 0 0 [.ref 0, .int key, .int wgt] [] h (fun r h' => r = some (.int (c_back s key wgt).1) ∧ CA h' (c_back s key wgt).2 ∧ SameC h h') := by
  obtain ⟨b, q, vb, K, nm, H⟩ := hC
  obtain ⟨hbq, h0, hW, hQ, hT, hL, hB⟩ := id H
  have hn := hW.2.2.2.2.1
  unfold c_back
  refine sw_iload_n dX8_back_0 rfl ?_
  refine sw_iconst (v := 0) dX8_back_1 (by decide) ?_
  refine sw_sipush (v := 9999) dX8_back_2 (by decide) ?_
  refine sw_pcs3 dX8_back_5 cs_X8_92 (m_isWithin) ?_
  refine sw_ifeq (tgt := 32) dX8_back_8 (by decide) (fun h1 => ?_) (fun h1 => ?_)
  · rw [if_neg (fun q => bz_eq0.mp h1 q.1)]
    refine sw_iconst (v := (-1)) dX8_back_32 (by decide) ?_
    exact sw_ireturn dX8_back_33 rfl rfl (⟨rfl, H.A, SameC.rf⟩)
  · have h1 := bz_eq1.mp h1
    refine sw_iload_n dX8_back_11 rfl ?_
    refine sw_iconst (v := 1) dX8_back_12 (by decide) ?_
    refine sw_bipush (v := 9) dX8_back_13 (by decide) ?_
    refine sw_pcs3 dX8_back_15 cs_X8_92 (m_isWithin) ?_
    refine sw_ifeq (tgt := 32) dX8_back_18 (by decide) (fun h2 => ?_) (fun h2 => ?_)
    · rw [if_neg (fun q => bz_eq0.mp h2 q.2.1)]
      refine sw_iconst (v := (-1)) dX8_back_32 (by decide) ?_
      exact sw_ireturn dX8_back_33 rfl rfl (⟨rfl, H.A, SameC.rf⟩)
    · have h2 := bz_eq1.mp h2
      refine sw_aload_n dX8_back_21 rfl ?_
      refine sw_getf dX8_back_22 fl_X8_28 (h0) rfl ?_
      refine sw_iload_n dX8_back_25 rfl ?_
      refine sw_pcv1 dX8_back_26 cv_X8_96 (rc_of hW.1 rfl) (m_hasKey hW) ?_
      refine sw_ifeq (tgt := 34) dX8_back_29 (by decide) (fun h3 => ?_) (fun h3 => ?_)
      · have h3 := bz_eq0.mp h3
        rw [if_pos ⟨h1, h2, h3⟩]
        refine sw_aload_n dX8_back_34 rfl ?_
        refine sw_getf dX8_back_35 fl_X8_28 (h0) rfl ?_
        refine sw_getf dX8_back_38 fl_X8_99 (hW.1) rfl ?_
        refine sw_bipush (v := 8) dX8_back_41 (by decide) ?_
        refine sw_cmplt (tgt := 49) dX8_back_43 (by decide) (fun h4 => ?_) (fun h4 => ?_)
        · have h4 := (nI_ltI (b := 8) (by omega) (by omega)).mp h4
          rw [if_pos h4]
          refine sw_aload_n dX8_back_49 rfl ?_
          refine sw_getf dX8_back_50 fl_X8_28 (h0) rfl ?_
          refine sw_iload_n dX8_back_53 rfl ?_
          refine sw_iload_n dX8_back_54 rfl ?_
          refine sw_cv2 dX8_back_55 cv_X8_102 (rc_of hW.1 rfl) (m_addBackend hW h4) (fun r g1 hr => ?_)
          obtain ⟨rfl, hW1, hS1⟩ := hr
          obtain ⟨H1, HS⟩ := H.W hW1 hS1
          have h0 := (hS1.2 0 (by omega)).trans h0
          refine sw_aload_n dX8_back_58 rfl ?_
          refine sw_getf dX8_back_59 fl_X8_28 (h0) rfl ?_
          refine sw_getf dX8_back_62 fl_X8_99 (hW1.1) rfl ?_
          refine sw_iconst (v := 1) dX8_back_65 (by decide) ?_
          refine sw_isub dX8_back_66 ?_
          exact sw_ireturn dX8_back_67 rfl rfl (⟨by show some (Value.int (nI (s.1.n + 1) - 1)) = _; rw [nI_pred], H1, HS⟩)
        · have h4 : ¬ s.1.n < 8 := fun q => h4 ((nI_ltI (b := 8) (by omega) (by omega)).mpr q)
          rw [if_neg h4]
          refine sw_bipush (v := (-2)) dX8_back_46 (by decide) ?_
          exact sw_ireturn dX8_back_48 rfl rfl (⟨rfl, H.A, SameC.rf⟩)
      · rw [if_neg (fun q => q.2.2 (bz_eq1.mp h3))]
        refine sw_iconst (v := (-1)) dX8_back_32 (by decide) ?_
        exact sw_ireturn dX8_back_33 rfl rfl (⟨rfl, H.A, SameC.rf⟩)
