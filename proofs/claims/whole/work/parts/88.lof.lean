/-! the law's own of: what is thrown is caught -/
abbrev hhL : List (Nat × Nat × Nat × Nat) := [(0, 10, 13, 13)]
abbrev mL_of : MI := (yL_of, cL_of, 5, some .int)
abbrev mL_law : MI := (yL_law, cL_law, 7, some .boolean)
theorem wL_of : Cond.codeWith yL_of cL_of 5 (some .int) hhL ∈ wtab := wtab_in 739 (by decide +kernel) (by decide +kernel)
def PL (h : AH) (s : CS) (b x : Int32) (f : Nat → Int64) : Option Value → AH → Prop := fun r h' =>
  (∃ v, c_of s b x = some v ∧ r = some (.int 0) ∧ h'.length = h.length ∧ h'[84]? = some (.inl (2, 1, .inr (.inl (updL f 0 v.toInt64)))) ∧ ∀ j, j ≠ 84 → h'[j]? = h[j]?) ∨ (c_of s b x = none ∧ r = some (.int 1) ∧ h' = h)
def EL (G : SG) (P : Option Value → AH → Prop) : EX := (fun c => c.exceptionTable.toList = tableOf hhL, fun below args s mc ms => MQ below (sg_Q G P) args s mc ms (sg_A G))
theorem l_of5 {G : SG} {d : Nat} {h : AH} {s : CS} {b x : Int32} {f : Nat → Int64} (hal : sg_al G = false) (hC : CA h s) (h84 : h[84]? = some (.inl (2, 1, .inr (.inl f)))) : SX G mL_of (d + 7) 1 6 5 [.ref 0, .int b, .int x, .ref 84, .retAddr 0] [.int x, .int b, .ref 0, .int 0, .ref 84] h (EL G (PL h s b x f)) := by
  have h0 : rc_ok h mX8_of.1.cls 0 := by
    obtain ⟨b0, q0, vb, K, nm, hbq, h0, hR⟩ := hC
    exact rc_of h0 rfl
  intro p l e R s' m args below meth c H locs ls cells slots mc ms hX C h1 h2 h3 h4 hI hS hL
  have hlo := C.lo
  have hfr := C.fr
  have cw : CallW R s' args mL_of.1.cls mX8_of.1.cls 7 mX8_of.1 mX8_of.2.1 mX8_of.2.2.1 mX8_of.2.2.2 (Cond.code mX8_of.1 mX8_of.2.1 mX8_of.2.2.1 mX8_of.2.2.2 :: wtab) ({ frames := d + 6, cells := 1, slots := 6, locals := 37 * (d + 6) } : Room) 1 6 2 :=
    ⟨callB_of 2 C.ts (mi_good cv_L_7.1) rfl rfl rfl (C.ts _ cv_L_7.1.2.2.1) (C.ts _ cv_L_7.2.1) ⟨cv_L_7.1.2.2.2.1.1, cv_L_7.1.2.2.2.1.2, cv_L_7.2.2.2.2.2.1⟩ ⟨hfr, by show 8 + (3 + 11) + 37 * (d + 6) ≤ _; omega⟩, C.ts _ cv_L_7.2.2.1, C.ts _ (List.mem_filter.mpr ⟨cv_L_7.2.2.2.1, cv_L_7.2.2.2.2.1⟩)⟩
  refine sx_finX (st := [.int 0, .ref 84]) (vx_runV (b := sg_ad G 0) (As := ([.int b, .int x] : List Value).map (sg_tr G)) (rest := ([.int 0, .ref 84] : List Value).map (sg_tr G)) ⟨C.x, C.b, C.ml, C.own, C.ts⟩ (o_met C.nt (o_sx (d := d) (b := b) (x := x) hal hC)) cw ⟨sw_blind, rc_cell C.E hI hS h0, fun U hU hW => ⟨rfl, sw_preE C.E hS hU hW, by rw [hU]; exact hI⟩⟩ rfl rfl hL.1 rfl (by show 2 * 0 + 2 ≤ 8; omega) dL_of_5 ⟨by omega, by omega⟩) hS (fun q ce H1 locs1 hN hI1 hS1 hc hv hcl => ?_) (fun r h' H1 locs1 hp hI1 hS1 => ?_)
  · refine vx_catch (own := RL) (name := NSE) C.own [] ⟨0, 10, 13, 13⟩ [] hX (fun z hz => nomatch hz) (by decide) (by decide) (C.ts _ w_674) (cast_of (C.ts _ w_680)) hc hv hcl ?_
    refine lv_astore C.x C.b dL_of_13 hL.has (by decide) rfl (fun ls' hl' => ?_)
    have hL' : sg_L G [.ref 0, .int b, .int x, .ref 84, .retAddr 0] 5 ls' := hL.setX C.E.fc (sg_okb_ok (by rfl)) hl'
    have hk : SW G mL_of (d + 7) 0 0 15 [.ref 0, .int b, .int x, .ref 84, .retAddr 0] [] h (PL h s b x f) := by
      refine sw_iconst (v := 1) dL_of_15 (by decide) ?_
      exact sw_ireturn dL_of_16 rfl rfl (Or.inr ⟨hN, rfl, rfl⟩)
    exact hk p l e R s' m args below meth c H1 locs1 ls' _ _ mc ms C (by omega) (by omega) h3 h4 hI1 hS1 hL'
  · obtain ⟨v, hv, rfl, rfl⟩ := hp
    have hk : SW G mL_of (d + 7) 0 0 8 [.ref 0, .int b, .int x, .ref 84, .retAddr 0] [.int v, .int 0, .ref 84] h' (PL h' s b x f) := by
      refine sw_i2l dL_of_8 ?_
      refine sw_last dL_of_9 (h84) (vp_in_nI (n := 0) (by decide) (by decide)) (fun g1 z1 e1 o1 => ?_)
      refine sw_goto (tgt := 17) dL_of_10 (by decide) ?_
      refine sw_iconst (v := 0) dL_of_17 (by decide) ?_
      exact sw_ireturn dL_of_18 rfl rfl (Or.inl ⟨v, hv, rfl, z1, e1, o1⟩)
    exact hk p l e R s' m args below meth c H1 locs1 ls _ _ mc ms C (by omega) (by omega) h3 h4 hI1 hS1 hL
theorem l_of {G : SG} {d : Nat} {h : AH} {s : CS} {b x : Int32} {f : Nat → Int64} (hal : sg_al G = false) (hC : CA h s) (h84 : h[84]? = some (.inl (2, 1, .inr (.inl f)))) : SX G mL_of (d + 7) 1 6 0 [.ref 0, .int b, .int x, .ref 84, .retAddr 0] [] h (EL G (PL h s b x f)) := by
  refine sx_aload_n dL_of_0 rfl ?_
  refine sx_iconst (v := 0) dL_of_1 (by decide) ?_
  refine sx_aload_n dL_of_2 rfl ?_
  refine sx_iload_n dL_of_3 rfl ?_
  refine sx_iload_n dL_of_4 rfl ?_
  exact l_of5 hal hC h84
theorem sw_ofWH {l : Launch} {y : MethodName} {ws ws' : List Cond} {rm : Room} {Pc : Array Value → State → Prop} {Qc : Array Value → State → Outcome → State → Prop} {mc ms : Nat} {free : Addr → Prop} {cc : ByteArray} {maxL : Nat} {ret : Option FieldType} {hh : List (Nat × Nat × Nat × Nat)}
    (hy : plainName y.cls = true) (hw : ws = Cond.codeWith y cc maxL ret hh :: ws')
    (body : ∀ p e s m args below meth c s₁, BodyLoose p l y (headSpec ws rm) cc maxL ret e s m args below meth c s₁ → c.maxLocals = maxL → Pc args s →
      W p l e (headSpec ws rm).room s m args below meth c s.heap [] 0 0 (MQ below Qc args s mc ms free) (entryFrame m args maxL)) : Met l y ws rm Pc Qc mc ms free := by
  refine MetFree.of_bodyS (code := cc) (maxLocals := maxL) (ret := ret) hy ?_ ?_
  · intro args s m h hn
    obtain ⟨m9, meth, c, hn9, h1, h2, h3, h4, -, h5, h6, -⟩ := Cond.codeWith_spec (atoms_spec (ws := ws) h _ (by rw [hw]; exact List.mem_cons_self))
    cases hn.symm.trans hn9
    exact ⟨meth, c, h1, h2, h3, h4, h5, h6⟩
  · intro p e s m args below meth c s₁ B hml hP _
    have hh0 : s₁.heap = s.heap := by rw [B.state]; rfl
    obtain ⟨t, a1, o, b1, b2, b3⟩ := body p e s m args below meth c s₁ B hml hP s₁ hh0 (Stand.of_body B)
    exact ⟨t, o, a1, b1, b2, ⟨b3.1, b3.2⟩⟩
theorem l_met {l : Launch} (hl : l.stackTraces = false) {G : SG} {d : Nat} {h : AH} {P : Option Value → AH → Prop} {b x : Int32} (hM : SX G mL_of d 1 6 0 [.ref 0, .int b, .int x, .ref 84, .retAddr 0] [] h (EL G P)) :
    Met l mL_of.1 (Cond.codeWith mL_of.1 mL_of.2.1 mL_of.2.2.1 mL_of.2.2.2 hhL :: wtab) ({ frames := d, cells := 1, slots := 6, locals := 37 * d } : Room) (va_Pc (([.ref 0, .int b, .int x, .ref 84] : List Value).map (sg_tr G)) (fun U => sg_E G U ∧ sg_I G h U.heap)) (sg_Q G P) 1 6 (sg_A G) := by
  refine sw_ofWH (cc := mL_of.2.1) (maxL := mL_of.2.2.1) (ret := mL_of.2.2.2) (by decide +kernel) rfl ?_
  intro p e s m args below meth c s₁ B hml hv
  obtain ⟨rfl, hE, hI⟩ := hv
  have hts := atoms_spec (ws := Cond.codeWith mL_of.1 mL_of.2.1 mL_of.2.2.1 mL_of.2.2.2 hhL :: wtab) B.pre
  have hown : s.vm.findClass mL_of.1.cls = some m.cls := findClass_of_methodNamed B.named
  have ht := vx_table (x := mL_of.1) B (hts _ List.mem_cons_self)
  rw [lg_entry_eq]
  have hen := sg_entry (G := G) (as := [.ref 0, .int b, .int x, .ref 84]) (n := 5) hE.fc (fun v hv => by simp only [List.mem_cons, List.not_mem_nil, or_false] at hv; rcases hv with rfl | rfl | rfl | rfl <;> rfl) (Nat.le_of_ble_eq_true rfl)
  exact hM p l e _ s m _ below meth c s.heap [] _ 0 0 1 6 ht ⟨B.exec, B.bytes, hml, B.returns, B.notSynchronized, hown, fun w hw => hts w (List.mem_cons_of_mem _ hw), hE, Nat.le_refl _, Nat.le_refl _, hl, (name_of_methodNamed B.named B.method).1⟩ (by omega) (by omega) (Nat.le_refl _) (Nat.le_refl _) hI va_S.rf hen
/-- the call of it -/
theorem sw_lof {G : SG} {d bc bs : Nat} {L st : List Value} {h : AH} {P P' : Option Value → AH → Prop} {b x : Int32} (hM : SX G mL_of d 1 6 0 [.ref 0, .int b, .int x, .ref 84, .retAddr 0] [] h (EL G P')) (hrm : (st.map fun v => v.category).sum ≤ 8)
    (kk : ∀ r h', P' r h' → SW G mL_law (d + 1) bc bs 614 L (r.toList ++ st) h' P) : SW G mL_law (d + 1) (bc + 1) (bs + 6) 611 L (.ref 84 :: .int x :: .int b :: .ref 0 :: st) h P := by
  intro p l e R s m args below meth c H locs ls cells slots mc ms C h1 h2 h3 h4 hI hS hL
  have hlo := C.lo
  have hfr := C.fr
  have hG : GoodIn wtab (Cond.codeWith mL_of.1 mL_of.2.1 mL_of.2.2.1 mL_of.2.2.2 hhL :: wtab) := by
    intro w hw
    rcases List.mem_cons.mp hw with rfl | hw
    · exact ⟨wL_of, good_of_word (wtab_good wL_of)⟩
    · exact ⟨hw, good_of_word (wtab_good hw)⟩
  have cw : vx_CSW R s args mL_law.1.cls 77 mL_of.1 mL_of.2.1 mL_of.2.2.1 mL_of.2.2.2 hhL (Cond.codeWith mL_of.1 mL_of.2.1 mL_of.2.2.1 mL_of.2.2.2 hhL :: wtab) ({ frames := d, cells := 1, slots := 6, locals := 37 * d } : Room) 1 6 4 := by
    refine ⟨⟨rfl, rfl, hfr, by show 8 + (5 + 11) + 37 * d ≤ _; omega, pay_in C.ts hG, List.mem_cons_self⟩, C.ts _ wL_of, C.ts _ w_0, ⟨by decide +kernel, by decide +kernel⟩, fun sig h => ?_, C.ts _ w_671, C.ts _ w_672⟩
    have h2 : (parseMethodDescriptor mL_of.1.desc).map (fun d => d.parameters.length) = some 4 := by decide +kernel
    rw [h] at h2
    exact (Option.some.inj h2).symm
  refine sw_fin (st := st) (vx_runSW (As := ([.ref 0, .int b, .int x, .ref 84] : List Value).map (sg_tr G)) (rest := st.map (sg_tr G)) ⟨C.x, C.b, C.ml, C.own, C.ts⟩ (l_met C.nt hM) cw ⟨sw_blind, fun U hU hW => ⟨rfl, sw_preE C.E hS hU hW, by rw [hU]; exact hI⟩⟩ rfl rfl hL.1 rfl (by show 2 * 0 + _ ≤ 8; rw [sw_catS C.E]; omega) dL_law_611 ⟨by omega, by omega⟩) hS (fun r h' H1 locs1 hp' hI1 hS1 => ?_)
  exact kk r h' hp' p l e R s m args below meth c H1 locs1 ls _ _ mc ms C (by omega) (by omega) h3 h4 hI1 hS1 hL
