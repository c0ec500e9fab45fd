theorem x_out {x : Int32} (h0 : ¬ x = 0) (h1 : ¬ x = 1) (h2 : ¬ x = 2) (h3 : ¬ x = 3) : x.toInt < 0 ∨ 3 < x.toInt := by
  rcases Int.lt_or_le x.toInt 0 with q | q
  · exact Or.inl q
  · rcases Int.lt_or_le 3 x.toInt with r | r
    · exact Or.inr r
    · exfalso
      obtain ⟨i, hi, e⟩ := nI_of2 (x := x) (M := 3) (n := 3) rfl (fun z => by have := Int32.lt_iff_toInt_lt.mp z; have e0 : (0 : Int32).toInt = 0 := rfl; omega) (Int32.le_iff_toInt_le.mpr r)
      rcases (show i = 0 ∨ i = 1 ∨ i = 2 ∨ i = 3 by omega) with rfl | rfl | rfl | rfl
      · exact h0 e
      · exact h1 e
      · exact h2 e
      · exact h3 e
abbrev PO (h : AH) (s : CS) (b x : Int32) : Option Value → AH → Prop := fun r h' => ∃ v, c_of s b x = some v ∧ r = some (.int v) ∧ h' = h
theorem o_sx {G : SG} {d : Nat} {h : AH} {s : CS} {b x : Int32} (hal : sg_al G = false) (hC : CA h s) : SX G mX8_of (d + 6) 1 6 0 [.ref 0, .int b, .int x] [] h (EO G h (c_of s b x = none) (PO h s b x)) := by
  obtain ⟨b0, q0, vb, K, nm, hbq, h0, hW, hQ, hT, hL, hB⟩ := hC
  have hE : ∀ below args st mc ms t, MQ below (sg_Q G (PO h s b x)) args st mc ms (sg_A G) t → (EO G h (c_of s b x = none) (PO h s b x)).2 below args st mc ms t := fun _ _ _ _ _ _ ⟨o, b1, b2, b3, b4⟩ => ⟨o, b1, b2, Or.inl ⟨b3, b4⟩⟩
  refine sx_aload_n dX8_of_0 rfl ?_
  refine sx_getf dX8_of_1 fl_X8_28 (h0) rfl ?_
  refine sx_iload_n dX8_of_4 rfl ?_
  refine sx_pcv1 dX8_of_5 cv_X8_106 (rc_of hW.1 rfl) (m_isBackend hW) ?_
  refine sx_ifne (tgt := 21) dX8_of_8 (by decide) (fun hb => ?_) (fun hb => ?_)
  · have hb := bz_eq1.mp hb
    by_cases hv : c_of s b x = none
    rotate_left
    · obtain ⟨v, hv⟩ := Option.ne_none_iff_exists'.mp hv
      exact SX.of (((o_norm h0 hW hb hv).le (Nat.zero_le 1) (Nat.zero_le 6)).mono (fun r h' q => ⟨v, hv, q.2⟩)) hE
    · skip
      have hv1 := hv
      unfold c_of at hv1
      rw [if_pos hb] at hv1
      have hg : ¬ (10 ≤ x ∧ (0 ≤ x - 10 ∧ x - 10 ≤ 3)) := fun q => by rw [if_pos q] at hv1; cases hv1
      rw [if_neg hg] at hv1
      have n0 : ¬ x = 0 := fun q => by rw [if_pos q] at hv1; cases hv1
      rw [if_neg n0] at hv1
      have n1 : ¬ x = 1 := fun q => by rw [if_pos q] at hv1; cases hv1
      rw [if_neg n1] at hv1
      have n2 : ¬ x = 2 := fun q => by rw [if_pos q] at hv1; cases hv1
      rw [if_neg n2] at hv1
      have n3 : ¬ x = 3 := fun q => by rw [if_pos q] at hv1; cases hv1
      have tail : SX G mX8_of (d + 6) 1 6 55 [.ref 0, .int b, .int x] [] h (EO G h (c_of s b x = none) (PO h s b x)) := by
        refine sx_iload_n dX8_of_55 rfl ?_
        refine sx_tsOut (tgt := 148) dX8_of_56 (x_out n0 n1 n2 n3) (by decide) ?_
        exact ox_throw (is := 187) (sa := 1015) (text := "nothing such of a backend") hal hv (by decide +kernel) dX8_of_148 dX8_of_151 dX8_of_152 dX8_of_154 dX8_of_157
      refine sx_iload_n dX8_of_21 rfl ?_
      refine sx_bipush (v := 10) dX8_of_22 (by decide) ?_
      refine sx_cmplt (tgt := 55) dX8_of_24 (by decide) (fun h10 => ?_) (fun h10 => ?_)
      · exact tail
      · refine sx_iload_n dX8_of_27 rfl ?_
        refine sx_bipush (v := 10) dX8_of_28 (by decide) ?_
        refine sx_isub dX8_of_30 ?_
        refine sx_pcs1 dX8_of_31 cs_X8_112 (m_isGate) ?_
        refine sx_ifeq (tgt := 55) dX8_of_34 (by decide) (fun h3 => ?_) (fun h3 => ?_)
        · exact tail
        · exact absurd ⟨Int32.not_lt.mp h10, bz_eq1.mp h3⟩ hg
  · have hb := bz_eq0.mp hb
    have hv : c_of s b x = none := if_neg hb
    exact ox_throw (pc := 11) (is := 170) (sa := 1014) (text := "no such backend") hal hv (by decide +kernel) dX8_of_11 dX8_of_14 dX8_of_15 dX8_of_17 dX8_of_20
theorem o_met {l : Launch} (hl : l.stackTraces = false) {G : SG} {d : Nat} {h : AH} {N : Prop} {P : Option Value → AH → Prop} {b x : Int32} (hM : SX G mX8_of d 1 6 0 [.ref 0, .int b, .int x] [] h (EO G h N P)) :
    vx_Met l mX8_of.1 (Cond.code mX8_of.1 mX8_of.2.1 mX8_of.2.2.1 mX8_of.2.2.2 :: wtab) ({ frames := d, cells := 1, slots := 6, locals := 37 * d } : Room) (va_Pc (([.ref 0, .int b, .int x] : List Value).map (sg_tr G)) (fun U => sg_E G U ∧ sg_I G h U.heap)) (sg_Q G P) (XO G h N) 1 6 (sg_A G) := by
  refine vx_ofW (cc := mX8_of.2.1) (maxL := mX8_of.2.2.1) (ret := mX8_of.2.2.2) (by decide +kernel) rfl ?_
  intro p e s m args below meth c s₁ B hml ht hv
  obtain ⟨rfl, hE, hI⟩ := hv
  have hts := atoms_spec (ws := Cond.code mX8_of.1 mX8_of.2.1 mX8_of.2.2.1 mX8_of.2.2.2 :: wtab) B.pre
  have hown : s.vm.findClass mX8_of.1.cls = some m.cls := findClass_of_methodNamed B.named
  rw [lg_entry_eq]
  have hen := sg_entry (G := G) (as := [.ref 0, .int b, .int x]) (n := 3) hE.fc (fun v hv => by simp only [List.mem_cons, List.not_mem_nil, or_false] at hv; rcases hv with rfl | rfl | rfl <;> rfl) (Nat.le_of_ble_eq_true rfl)
  exact hM p l e _ s m _ below meth c s.heap [] _ 0 0 1 6 ht ⟨B.exec, B.bytes, hml, B.returns, B.notSynchronized, hown, fun w hw => hts w (List.mem_cons_of_mem _ hw), hE, Nat.le_refl _, Nat.le_refl _, hl, (name_of_methodNamed B.named B.method).1⟩ (by omega) (by omega) (Nat.le_refl _) (Nat.le_refl _) hI va_S.rf hen
theorem sx_finX {G : SG} {p : Program} {l : Launch} {e : Env} {R : Room} {s : State} {m : MethodId} {args : Array Value} {below : List Frame} {meth : Method} {c : Code} {H : Heap} {locs : List Loc} {cells slots : Nat} {Q : State → Prop} {pc mc ms : Nat} {ls : Array Slot} {st0 st : List Value} {a : Array Value} {h : AH} {N : Prop} {P' : Option Value → AH → Prop}
    (hr : vx_Run p l e R s m args below meth c H locs cells slots mc ms (F0 m pc ls st0) (st.map (sg_tr G)) (sg_Q G P' a) (XO G h N) (sg_A G)) (hS : va_S (sg_A G) s.heap H locs)
    (kx : ∀ (q : Addr) (ce : Cell) (H1 : Heap) (locs1 : List Loc), N → sg_I G h H1 → va_S (sg_A G) s.heap H1 locs1 → H1[q]? = some ce → ce.vm = .none → s.vm.findClass NSE = some ce.cls → vx_W p l e R s m args below meth c H1 locs1 (cells + mc) (slots + ms) Q (F0 m pc ls (st.map (sg_tr G))) q)
    (kk : ∀ (r : Option Value) (h' : AH) (H1 : Heap) (locs1 : List Loc), P' r h' → sg_I G h' H1 → va_S (sg_A G) s.heap H1 locs1 → W p l e R s m args below meth c H1 locs1 (cells + mc) (slots + ms) Q (F0 m (pc + 3) ls ((r.toList ++ st).map (sg_tr G)))) : W p l e R s m args below meth c H locs cells slots Q (F0 m pc ls st0) := by
  intro T hT X
  rcases hr T hT X with ⟨v, st₀, t, T', L, h0, X', hL, e1, e2, ⟨⟨r, h', hv, hI, hp⟩, hz, hk⟩, stp⟩ | ⟨q, st₀, t, T', L, E, ce, h0, X', hL, e1, e2, ⟨hE, hN, hI, hz, hk⟩, hce, hcv, hcl, stp⟩
  · have hv' : v = r.map (sg_tr G) := by injection hv
    subst hv'
    rw [h0] at hz hk
    have e3 : (r.toList ++ st).map (sg_tr G) = (r.map (sg_tr G)).toList ++ st.map (sg_tr G) := by cases r <;> simp
    have kk' := kk r h' T'.heap (locs ++ L) hp (by rw [e1]; exact hI) ⟨Nat.le_trans hS.1 (by rw [e1]; exact hz), fun q g1 g2 => by rw [e1, hk q (Nat.lt_of_lt_of_le g1 hS.1) g2]; exact hS.2.1 q g1 g2, fun q hq => by
        rcases List.mem_append.mp hq with g | g
        · exact hS.2.2 q g
        · exact hL q g⟩
    rw [e3] at kk'
    obtain ⟨t2, a1, b1⟩ := kk' T' rfl X'
    exact ⟨t2, stp t2 a1, b1⟩
  · subst hE
    rw [h0] at hz hk
    obtain ⟨t2, a1, b1⟩ := kx q ce T'.heap (locs ++ L) hN (by rw [e1]; exact hI) ⟨Nat.le_trans hS.1 (by rw [e1]; exact hz), fun q g1 g2 => by rw [e1, hk q (Nat.lt_of_lt_of_le g1 hS.1) g2]; exact hS.2.1 q g1 g2, fun q hq => by
        rcases List.mem_append.mp hq with g | g
        · exact hS.2.2 q g
        · exact hL q g⟩ (by rw [e1]; exact hce) hcv hcl T' rfl X'
    exact ⟨t2, stp.trans a1, b1⟩
theorem sg_L.setX {G : SG} {L : List Value} {nL i : Nat} {ls : Array Slot} {u : Value} (hf : (sg_f G).category = 1) (h : sg_L G L nL ls) (hok : sg_ok L i) {ls' : Array Slot}
    (h' : lv_has ls' nL ((i, u) :: (sg_lv G L).filter (fun q => !(q.1 == i) && !(q.1 + 1 == i && q.2.category == 2)))) : sg_L G (L.set i (.retAddr 0)) nL ls' := by
  refine ⟨h'.1, h'.2.1, by rw [List.length_set]; exact h.2.2.1, fun j w hj hw => ?_⟩
  by_cases hij : i = j
  · subst hij
    have hlt := (List.getElem?_eq_some_iff.mp hj).1
    rw [List.length_set] at hlt
    rw [List.getElem?_set_self hlt] at hj
    cases hj
    exact absurd rfl hw
  · rw [List.getElem?_set_ne hij] at hj
    refine h'.2.2 (j, sg_tr G w) (List.mem_cons_of_mem _ (List.mem_filter.mpr ⟨sg_lv_mem.mpr ⟨w, hj, hw, rfl⟩, ?_⟩))
    have h1 : (j == i) = false := by simp; omega
    by_cases h2 : j + 1 = i
    · have h3 : w.category = 1 := by
        rcases hok w (by rw [show i - 1 = j by omega]; exact hj) with z | z
        · omega
        · exact z
      simp [h1, sg_catT hf, h3]
    · have h4 : (j + 1 == i) = false := by simp; omega
      simp [h1, h4]
