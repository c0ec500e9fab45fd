
/-- a method of the tables -/
def mi_ok (y : MI) : Prop := plainFor y.1 = true ∧ Cond.code y.1 y.2.1 y.2.2.1 y.2.2.2 ∈ wtab ∧ Cond.initialized y.1.cls ∈ wtab ∧ (y.1.cls ≠ "java/lang/invoke/MethodHandle" ∧ y.1.cls ≠ "java/lang/invoke/VarHandle") ∧ y.2.2.1 ≤ 18
theorem mi_good {y : MI} (h : mi_ok y) : GoodIn wtab (Cond.code y.1 y.2.1 y.2.2.1 y.2.2.2 :: wtab) := by
  intro w hw
  rcases List.mem_cons.mp hw with rfl | hw
  · exact ⟨h.2.1, good_of_word (wtab_good h.2.1)⟩
  · exact ⟨hw, good_of_word (wtab_good hw)⟩
theorem sg_sl1 {vs : List Value} (h : ∀ v ∈ vs, v.category = 1) : lg_sl vs = vs.map Slot.val := by
  induction vs with
  | nil => rfl
  | cons v vs ih =>
    have h1 : ¬ v.category = 2 := by rw [h v List.mem_cons_self]; decide
    unfold lg_sl at ih ⊢
    rw [List.flatMap_cons, if_neg h1, ih (fun w hw => h w (List.mem_cons_of_mem _ hw))]
    rfl
theorem sg_entry {G : SG} {as : List Value} {n : Nat} (hf : (sg_f G).category = 1) (has : ∀ v ∈ as, v.category = 1) (hl : as.length ≤ n) : sg_L G (as ++ List.replicate (n - as.length) (.retAddr 0)) n ((lg_sl (as.map (sg_tr G)) ++ List.replicate (n - (lg_sl (as.map (sg_tr G))).length) Slot.unset).toArray) := by
  have h1 : lg_sl (as.map (sg_tr G)) = (as.map (sg_tr G)).map Slot.val := sg_sl1 (fun v hv => by
    obtain ⟨w, hw, rfl⟩ := List.mem_map.mp hv
    rw [sg_catT hf]; exact has w hw)
  have hlv := lv_entry (as.map (sg_tr G)) (n := n) (by rw [h1]; simpa using hl)
  refine ⟨hlv.1, hlv.2.1, by simp; omega, fun i v hi hv => ?_⟩
  rw [h1]
  by_cases hlt : i < as.length
  · rw [List.getElem?_append_left hlt] at hi
    rw [List.getElem?_toArray, List.getElem?_append_left (by simpa using hlt), List.getElem?_map, List.getElem?_map, hi]
    rfl
  · rw [List.getElem?_append_right (by omega)] at hi
    have := List.eq_of_mem_replicate (List.mem_of_getElem? hi)
    exact absurd this hv
/-- a body gives the contract: the method has no row among the natives -/
theorem sw_ofW {l : Launch} {y : MethodName} {ws ws' : List Cond} {rm : Room} {Pc : Array Value → State → Prop} {Qc : Array Value → State → Outcome → State → Prop} {mc ms : Nat} {free : Addr → Prop} {cc : ByteArray} {maxL : Nat} {ret : Option FieldType}
    (hy : plainFor y = true) (hw : ws = Cond.code y cc maxL ret :: ws')
    (body : ∀ p e s m args below meth c s₁, BodyLoose p l y (headSpec ws rm) cc maxL ret e s m args below meth c s₁ → c.maxLocals = maxL → Pc args s →
      W p l e (headSpec ws rm).room s m args below meth c s.heap [] 0 0 (MQ below Qc args s mc ms free) (entryFrame m args maxL)) : Met l y ws rm Pc Qc mc ms free := by
  refine MetFree.of_bodySF (code := cc) (maxLocals := maxL) (ret := ret) hy ?_ ?_
  · intro args s m h hn
    obtain ⟨meth, c, h1, h2, h3, h4, h5, h6, -, -⟩ := Cond.code_spec hn (atoms_spec (ws := ws) h _ (by rw [hw]; exact List.mem_cons_self))
    exact ⟨meth, c, h1, h2, h3, h4, h5, h6⟩
  · intro p e s m args below meth c s₁ B hml hP _
    have hh0 : s₁.heap = s.heap := by rw [B.state]; rfl
    have hb := body p e s m args below meth c s₁ B hml hP
    obtain ⟨t, a1, o, b1, b2, b3⟩ := hb s₁ hh0 (Stand.of_body B)
    exact ⟨t, o, a1, b1, b2, ⟨b3.1, b3.2⟩⟩
/-- what a method comes to, as a contract -/
theorem sw_met {G : SG} {y : MI} {d bc bs : Nat} {as L0 : List Value} {h : AH} {P : Option Value → AH → Prop} {l : Launch} (hl : l.stackTraces = false) (hy : mi_ok y) (has : ∀ v ∈ as, v.category = 1) (hlen : as.length ≤ y.2.2.1) (hL0 : L0 = as ++ List.replicate (y.2.2.1 - as.length) (.retAddr 0)) (hM : SW G y d bc bs 0 L0 [] h P) :
    Met l y.1 (Cond.code y.1 y.2.1 y.2.2.1 y.2.2.2 :: wtab) ({ frames := d, cells := bc, slots := bs, locals := 37 * d } : Room) (va_Pc (as.map (sg_tr G)) (fun U => sg_E G U ∧ sg_I G h U.heap)) (sg_Q G P) bc bs (sg_A G) := by
  subst hL0
  refine sw_ofW (cc := y.2.1) (maxL := y.2.2.1) (ret := y.2.2.2) hy.1 rfl ?_
  intro p e s m args below meth c s₁ B hml hv
  obtain ⟨rfl, hE, hI⟩ := hv
  have hts := atoms_spec (ws := Cond.code y.1 y.2.1 y.2.2.1 y.2.2.2 :: wtab) B.pre
  have hown : s.vm.findClass y.1.cls = some m.cls := findClass_of_methodNamed B.named
  rw [lg_entry_eq]
  exact hM p l e _ s m _ below meth c s.heap [] _ 0 0 bc bs ⟨B.exec, B.bytes, hml, B.returns, B.notSynchronized, hown, fun w hw => hts w (List.mem_cons_of_mem _ hw), hE, Nat.le_refl _, Nat.le_refl _, hl, (name_of_methodNamed B.named B.method).1⟩ (by omega) (by omega) (Nat.le_refl _) (Nat.le_refl _) hI va_S.rf (sg_entry hE.fc has hlen)
theorem sw_preE {G : SG} {s U : State} {H : Heap} {locs : List Loc} (hE : sg_E G s) (hS : va_S (sg_A G) s.heap H locs) (hU : U.heap = H) (hW : s.WarmedH U.vm) : sg_E G U := hE.move hW (by rw [hU]; exact hS.1) (fun q h1 h2 => by rw [hU]; exact hS.2.1 q h1 h2)
theorem sw_blind {G : SG} {as : List Value} {h : AH} : FrameBlind (va_Pc as (fun U => sg_E G U ∧ sg_I G h U.heap)) := fun a _ g mk q => ⟨q.1, q.2.1.same g mk a, q.2.2⟩
theorem sw_fin {G : SG} {p : Program} {l : Launch} {e : Env} {R : Room} {s : State} {m : MethodId} {args : Array Value} {below : List Frame} {meth : Method} {c : Code} {H : Heap} {locs : List Loc} {cells slots : Nat} {Q : State → Prop} {pc mc ms : Nat} {ls : Array Slot} {st0 st : List Value} {a : Array Value} {P' : Option Value → AH → Prop}
    (hr : va_Run p l e R s m args below meth c H locs cells slots mc ms (F0 m pc ls st0) (st.map (sg_tr G)) (sg_Q G P' a) (sg_A G)) (hS : va_S (sg_A G) s.heap H locs)
    (kk : ∀ (r : Option Value) (h' : AH) (H1 : Heap) (locs1 : List Loc), P' r h' → sg_I G h' H1 → va_S (sg_A G) s.heap H1 locs1 → W p l e R s m args below meth c H1 locs1 (cells + mc) (slots + ms) Q (F0 m (pc + 3) ls ((r.toList ++ st).map (sg_tr G)))) : W p l e R s m args below meth c H locs cells slots Q (F0 m pc ls st0) := by
  intro T hT X
  obtain ⟨v, st₀, t, T', L, h0, X', hL, e1, e2, ⟨⟨r, h', hv, hI, hp⟩, hz, hk⟩, stp⟩ := hr T hT X
  have hv' : v = r.map (sg_tr G) := by injection hv
  subst hv'
  rw [h0] at hz hk
  have e3 : (r.toList ++ st).map (sg_tr G) = (r.map (sg_tr G)).toList ++ st.map (sg_tr G) := by cases r <;> simp
  have kk' := kk r h' T'.heap (locs ++ L) hp (by rw [e1]; exact hI) ⟨Nat.le_trans hS.1 (by rw [e1]; exact hz), fun q g1 g2 => by rw [e1, hk q (Nat.lt_of_lt_of_le g1 hS.1) g2]; exact hS.2.1 q g1 g2, fun q hq => by
      rcases List.mem_append.mp hq with g | g
      · exact hS.2.2 q g
      · exact hL q g⟩
  rw [e3] at kk'
  obtain ⟨t2, a1, b1⟩ := kk' T' rfl X'
  exact ⟨t2, stp t2 a1, b1⟩
def pn_ok (y : MI) (n : Nat) : Prop := (parseMethodDescriptor y.1.desc).map (fun d => d.parameters.length) = some n
section ROWS4
variable {G : SG} {y : MI} {d bc bs pc : Nat} {L st : List Value} {h : AH} {P : Option Value → AH → Prop}
/-- a static method -/
theorem sw_callS {ix n bc' bs' : Nat} {y' : MI} (as : List Value) {L0 : List Value} {st0 : List Value} {P' : Option Value → AH → Prop} (hd : decode y.2.1 pc = .ok (.invokestatic ix, 3)) (hy : mi_ok y') (hw : Cond.methodLink y.1.cls ix y'.1 ∈ wtab) (hs : Cond.static y'.1 ∈ wtab) (hp : pn_ok y' n) (hn : as.length = n) (hle : as.length ≤ y'.2.2.1) (has : ∀ v ∈ as, v.category = 1) (hst : st0 = as.reverse ++ st) (hrm : (st.map fun v => v.category).sum ≤ 8)
    (hL0 : L0 = as ++ List.replicate (y'.2.2.1 - as.length) (.retAddr 0)) (hM : SW G y' d bc' bs' 0 L0 [] h P') (kk : ∀ r h', P' r h' → SW G y (d + 1) bc bs (pc + 3) L (r.toList ++ st) h' P) : SW G y (d + 1) (bc + bc') (bs + bs') pc L st0 h P := by
  intro p l e R s m args below meth c H locs ls cells slots mc ms C h1 h2 h3 h4 hI hS hL
  subst hst
  have hlo := C.lo
  have hfr := C.fr
  have hml := hy.2.2.2.2
  have cw : CallB R s args y.1.cls ix y'.1 y'.2.1 y'.2.2.1 y'.2.2.2 (Cond.code y'.1 y'.2.1 y'.2.2.1 y'.2.2.2 :: wtab) ({ frames := d, cells := bc', slots := bs', locals := 37 * d } : Room) bc' bs' n ∧ (Cond.static y'.1).before args s = true :=
    ⟨callB_of n C.ts (mi_good hy) rfl rfl rfl (C.ts _ hy.2.2.1) (C.ts _ hw) ⟨hy.2.2.2.1.1, hy.2.2.2.1.2, hp⟩ ⟨hfr, by show 8 + (y'.2.2.1 + 11) + 37 * d ≤ _; omega⟩, C.ts _ hs⟩
  refine sw_fin (st := st) (va_runS (As := as.map (sg_tr G)) (rest := st.map (sg_tr G)) ⟨C.x, C.b, C.ml, C.own, C.ts⟩ (sw_met C.nt hy has hle hL0 hM) cw ⟨sw_blind, fun U hU hW => ⟨rfl, sw_preE C.E hS hU hW, by rw [hU]; exact hI⟩⟩ rfl (by rw [List.length_map]; exact hn) hL.1 (by rw [List.map_append, List.map_reverse]) (lv_room (by rw [List.map_map]; rw [show ((fun v : Value => v.category) ∘ sg_tr G) = (fun v => v.category) from funext fun v => sg_catT C.E.fc v]; exact hrm)) hd ⟨by omega, by omega⟩) hS (fun r h' H1 locs1 hp' hI1 hS1 => ?_)
  exact kk r h' hp' p l e R s m args below meth c H1 locs1 ls _ _ mc ms C (by omega) (by omega) h3 h4 hI1 hS1 hL
/-- a static method of a nest mate -/
theorem sw_callSN {ix n bc' bs' : Nat} {y' : MI} (as : List Value) {L0 : List Value} {st0 : List Value} {P' : Option Value → AH → Prop} (hd : decode y.2.1 pc = .ok (.invokestatic ix, 3)) (hy : mi_ok y') (hw : (y.1.cls, ix, y'.1) ∈ ro_nm) (hs : Cond.static y'.1 ∈ wtab) (hp : pn_ok y' n) (hn : as.length = n) (hle : as.length ≤ y'.2.2.1) (has : ∀ v ∈ as, v.category = 1) (hst : st0 = as.reverse ++ st) (hrm : (st.map fun v => v.category).sum ≤ 8)
    (hL0 : L0 = as ++ List.replicate (y'.2.2.1 - as.length) (.retAddr 0)) (hM : SW G y' d bc' bs' 0 L0 [] h P') (kk : ∀ r h', P' r h' → SW G y (d + 1) bc bs (pc + 3) L (r.toList ++ st) h' P) : SW G y (d + 1) (bc + bc') (bs + bs') pc L st0 h P := by
  intro p l e R s m args below meth c H locs ls cells slots mc ms C h1 h2 h3 h4 hI hS hL
  subst hst
  have hlo := C.lo
  have hfr := C.fr
  have hml := hy.2.2.2.2
  have cw : va_CN R s args y.1.cls ix y'.1 "FlowGates" y'.2.1 y'.2.2.1 y'.2.2.2 (Cond.code y'.1 y'.2.1 y'.2.2.1 y'.2.2.2 :: wtab) ({ frames := d, cells := bc', slots := bs', locals := 37 * d } : Room) bc' bs' n ∧ (Cond.static y'.1).before args s = true ∧ True :=
    ⟨va_cnB n C.ts (mi_good hy) rfl rfl rfl (C.E.nm _ hw) (C.ts _ hy.2.2.1) ⟨hy.2.2.2.1.1, hy.2.2.2.1.2, hp⟩ ⟨hfr, by show 8 + (y'.2.2.1 + 11) + 37 * d ≤ _; omega⟩, C.ts _ hs, trivial⟩
  refine sw_fin (st := st) (va_runSN (As := as.map (sg_tr G)) (rest := st.map (sg_tr G)) ⟨C.x, C.b, C.ml, C.own, C.ts⟩ (sw_met C.nt hy has hle hL0 hM) cw ⟨sw_blind, fun U hU hW => ⟨rfl, sw_preE C.E hS hU hW, by rw [hU]; exact hI⟩⟩ rfl (by rw [List.length_map]; exact hn) hL.1 (by rw [List.map_append, List.map_reverse]) (lv_room (by rw [List.map_map]; rw [show ((fun v : Value => v.category) ∘ sg_tr G) = (fun v => v.category) from funext fun v => sg_catT C.E.fc v]; exact hrm)) hd ⟨by omega, by omega⟩) hS (fun r h' H1 locs1 hp' hI1 hS1 => ?_)
  exact kk r h' hp' p l e R s m args below meth c H1 locs1 ls _ _ mc ms C (by omega) (by omega) h3 h4 hI1 hS1 hL
/-- the receiver: an object of ours, or an old one -/
def rc_ok (h : AH) (C0 : String) (b : Nat) : Prop := (∃ (ci : Nat) (fs : List Value) (T : u_T) (N : Nat), h[b]? = some (.inr (ci, fs)) ∧ vwCl[ci]? = some (C0, T, N)) ∨ (b, C0) ∈ ro_cl
theorem rc_of {h : AH} {ci b : Nat} {fs : List Value} {r : vw_C} (hk : h[b]? = some (.inr (ci, fs))) (hc : vwCl[ci]? = some r) : rc_ok h r.1 b := Or.inl ⟨ci, fs, r.2.1, r.2.2, hk, hc⟩
theorem rc_cell {G : SG} {s : State} {H : Heap} {locs : List Loc} {h : AH} {C0 : String} {b : Nat} (hE : sg_E G s) (hI : sg_I G h H) (hS : va_S (sg_A G) s.heap H locs) (hr : rc_ok h C0 b) : ∃ cell : Cell, H[sg_ad G b]? = some cell ∧ cell.vm.isStatics = false ∧ s.vm.findClass C0 = some cell.cls := by
  rcases hr with ⟨ci, fs, T, N, hk, hc⟩ | hq
  · exact va_recv hE.K hI.1 hc (hI.at hk)
  · obtain ⟨cell, g1, g2, g3, -⟩ := (hE.cl _ hq).kept hS.2.1
    exact ⟨cell, g1, g2, g3⟩
/-- a method of an object -/
theorem sw_callV {ix n b bc' bs' : Nat} {y' : MI} (as : List Value) {L0 : List Value} {st0 : List Value} {P' : Option Value → AH → Prop} (hd : decode y.2.1 pc = .ok (.invokevirtual ix, 3)) (hy : mi_ok y') (hw : Cond.methodLink y.1.cls ix y'.1 ∈ wtab) (hi : Cond.instanceMethod y'.1 ∈ wtab) (hse : Cond.selects y'.1.cls y'.1 y'.1 ∈ lw_tbl) (hsg : goodWord (Cond.selects y'.1.cls y'.1 y'.1) = true) (hp : pn_ok y' n) (hn : as.length = n) (hle : as.length + 1 ≤ y'.2.2.1) (has : ∀ v ∈ as, v.category = 1) (hst : st0 = as.reverse ++ .ref b :: st) (hrm : (st.map fun v => v.category).sum ≤ 8) (hr : rc_ok h y'.1.cls b)
    (hL0 : L0 = (.ref b :: as) ++ List.replicate (y'.2.2.1 - (as.length + 1)) (.retAddr 0)) (hM : SW G y' d bc' bs' 0 L0 [] h P') (kk : ∀ r h', P' r h' → SW G y (d + 1) bc bs (pc + 3) L (r.toList ++ st) h' P) : SW G y (d + 1) (bc + bc') (bs + bs') pc L st0 h P := by
  intro p l e R s m args below meth c H locs ls cells slots mc ms C h1 h2 h3 h4 hI hS hL
  subst hst
  have hlo := C.lo
  have hfr := C.fr
  have hml := hy.2.2.2.2
  have cw : CallW R s args y.1.cls y'.1.cls ix y'.1 y'.2.1 y'.2.2.1 y'.2.2.2 (Cond.code y'.1 y'.2.1 y'.2.2.1 y'.2.2.2 :: wtab) ({ frames := d, cells := bc', slots := bs', locals := 37 * d } : Room) bc' bs' n :=
    ⟨callB_of n C.ts (mi_good hy) rfl rfl rfl (C.ts _ hy.2.2.1) (C.ts _ hw) ⟨hy.2.2.2.1.1, hy.2.2.2.1.2, hp⟩ ⟨hfr, by show 8 + (y'.2.2.1 + 11) + 37 * d ≤ _; omega⟩, C.ts _ hi, C.ts _ (List.mem_filter.mpr ⟨hse, hsg⟩)⟩
  have has' : ∀ v ∈ (.ref b :: as : List Value), v.category = 1 := fun v hv => by
    rcases List.mem_cons.mp hv with rfl | hv
    · rfl
    · exact has v hv
  refine sw_fin (st := st) (va_runV (b := sg_ad G b) (As := as.map (sg_tr G)) (rest := st.map (sg_tr G)) ⟨C.x, C.b, C.ml, C.own, C.ts⟩ (sw_met C.nt hy has' hle hL0 hM) cw ⟨sw_blind, rc_cell C.E hI hS hr, fun U hU hW => ⟨rfl, sw_preE C.E hS hU hW, by rw [hU]; exact hI⟩⟩ rfl (by rw [List.length_map]; exact hn) hL.1 (by rw [List.map_append, List.map_reverse]; rfl) (lv_room (by rw [List.map_map]; rw [show ((fun v : Value => v.category) ∘ sg_tr G) = (fun v => v.category) from funext fun v => sg_catT C.E.fc v]; exact hrm)) hd ⟨by omega, by omega⟩) hS (fun r h' H1 locs1 hp' hI1 hS1 => ?_)
  exact kk r h' hp' p l e R s m args below meth c H1 locs1 ls _ _ mc ms C (by omega) (by omega) h3 h4 hI1 hS1 hL
/-- a constructor -/
theorem sw_callI {ix n b bc' bs' : Nat} {y' : MI} (as : List Value) {L0 : List Value} {st0 : List Value} {P' : Option Value → AH → Prop} (hd : decode y.2.1 pc = .ok (.invokespecial ix, 3)) (hy : mi_ok y') (hw : Cond.methodLink y.1.cls ix y'.1 ∈ wtab) (hi : Cond.instanceMethod y'.1 ∈ wtab) (hin : y'.1.name = "<init>") (hrt : y'.2.2.2 = none) (hp : pn_ok y' n) (hn : as.length = n) (hle : as.length + 1 ≤ y'.2.2.1) (has : ∀ v ∈ as, v.category = 1) (hst : st0 = as.reverse ++ .ref b :: st) (hrm : (st.map fun v => v.category).sum ≤ 8)
    (hL0 : L0 = (.ref b :: as) ++ List.replicate (y'.2.2.1 - (as.length + 1)) (.retAddr 0)) (hM : SW G y' d bc' bs' 0 L0 [] h P') (kk : ∀ r h', P' r h' → SW G y (d + 1) bc bs (pc + 3) L (r.toList ++ st) h' P) : SW G y (d + 1) (bc + bc') (bs + bs') pc L st0 h P := by
  intro p l e R s m args below meth c H locs ls cells slots mc ms C h1 h2 h3 h4 hI hS hL
  subst hst
  have hlo := C.lo
  have hfr := C.fr
  have hml := hy.2.2.2.2
  have hM1 := sw_met (as := .ref b :: as) C.nt hy (fun v hv => by
    rcases List.mem_cons.mp hv with rfl | hv
    · rfl
    · exact has v hv) hle hL0 hM
  have hg := mi_good hy
  rw [hrt] at hM1 hg
  have cw : CallB R s args y.1.cls ix y'.1 y'.2.1 y'.2.2.1 none (Cond.code y'.1 y'.2.1 y'.2.2.1 none :: wtab) ({ frames := d, cells := bc', slots := bs', locals := 37 * d } : Room) bc' bs' n ∧ y'.1.name = "<init>" ∧ (Cond.instanceMethod y'.1).before args s = true :=
    ⟨callB_of n C.ts hg rfl rfl rfl (C.ts _ hy.2.2.1) (C.ts _ hw) ⟨hy.2.2.2.1.1, hy.2.2.2.1.2, hp⟩ ⟨hfr, by show 8 + (y'.2.2.1 + 11) + 37 * d ≤ _; omega⟩, hin, C.ts _ hi⟩
  refine sw_fin (st := st) (va_runI (b := sg_ad G b) (As := as.map (sg_tr G)) (rest := st.map (sg_tr G)) ⟨C.x, C.b, C.ml, C.own, C.ts⟩ hM1 cw ⟨sw_blind, fun U hU hW => ⟨rfl, sw_preE C.E hS hU hW, by rw [hU]; exact hI⟩⟩ rfl (by rw [List.length_map]; exact hn) hL.1 (by rw [List.map_append, List.map_reverse]; rfl) (lv_room (by rw [List.map_map]; rw [show ((fun v : Value => v.category) ∘ sg_tr G) = (fun v => v.category) from funext fun v => sg_catT C.E.fc v]; exact hrm)) hd ⟨by omega, by omega⟩) hS (fun r h' H1 locs1 hp' hI1 hS1 => ?_)
  exact kk r h' hp' p l e R s m args below meth c H1 locs1 ls _ _ mc ms C (by omega) (by omega) h3 h4 hI1 hS1 hL
theorem sw_callIN {ix n b bc' bs' : Nat} {y' : MI} (as : List Value) {L0 : List Value} {st0 : List Value} {P' : Option Value → AH → Prop} (hd : decode y.2.1 pc = .ok (.invokespecial ix, 3)) (hy : mi_ok y') (hw : (y.1.cls, ix, y'.1) ∈ ro_nm) (hi : Cond.instanceMethod y'.1 ∈ wtab) (hin : y'.1.name = "<init>") (hrt : y'.2.2.2 = none) (hp : pn_ok y' n) (hn : as.length = n) (hle : as.length + 1 ≤ y'.2.2.1) (has : ∀ v ∈ as, v.category = 1) (hst : st0 = as.reverse ++ .ref b :: st) (hrm : (st.map fun v => v.category).sum ≤ 8)
    (hL0 : L0 = (.ref b :: as) ++ List.replicate (y'.2.2.1 - (as.length + 1)) (.retAddr 0)) (hM : SW G y' d bc' bs' 0 L0 [] h P') (kk : ∀ r h', P' r h' → SW G y (d + 1) bc bs (pc + 3) L (r.toList ++ st) h' P) : SW G y (d + 1) (bc + bc') (bs + bs') pc L st0 h P := by
  intro p l e R s m args below meth c H locs ls cells slots mc ms C h1 h2 h3 h4 hI hS hL
  subst hst
  have hlo := C.lo
  have hfr := C.fr
  have hml := hy.2.2.2.2
  have hM1 := sw_met (as := .ref b :: as) C.nt hy (fun v hv => by
    rcases List.mem_cons.mp hv with rfl | hv
    · rfl
    · exact has v hv) hle hL0 hM
  have hg := mi_good hy
  rw [hrt] at hM1 hg
  have cw : va_CN R s args y.1.cls ix y'.1 "FlowGates" y'.2.1 y'.2.2.1 none (Cond.code y'.1 y'.2.1 y'.2.2.1 none :: wtab) ({ frames := d, cells := bc', slots := bs', locals := 37 * d } : Room) bc' bs' n ∧ y'.1.name = "<init>" ∧ (Cond.instanceMethod y'.1).before args s = true :=
    ⟨va_cnB n C.ts hg rfl rfl rfl (C.E.nm _ hw) (C.ts _ hy.2.2.1) ⟨hy.2.2.2.1.1, hy.2.2.2.1.2, hp⟩ ⟨hfr, by show 8 + (y'.2.2.1 + 11) + 37 * d ≤ _; omega⟩, hin, C.ts _ hi⟩
  refine sw_fin (st := st) (va_runIN (b := sg_ad G b) (As := as.map (sg_tr G)) (rest := st.map (sg_tr G)) ⟨C.x, C.b, C.ml, C.own, C.ts⟩ hM1 cw ⟨sw_blind, fun U hU hW => ⟨rfl, sw_preE C.E hS hU hW, by rw [hU]; exact hI⟩⟩ rfl (by rw [List.length_map]; exact hn) hL.1 (by rw [List.map_append, List.map_reverse]; rfl) (lv_room (by rw [List.map_map]; rw [show ((fun v : Value => v.category) ∘ sg_tr G) = (fun v => v.category) from funext fun v => sg_catT C.E.fc v]; exact hrm)) hd ⟨by omega, by omega⟩) hS (fun r h' H1 locs1 hp' hI1 hS1 => ?_)
  exact kk r h' hp' p l e R s m args below meth c H1 locs1 ls _ _ mc ms C (by omega) (by omega) h3 h4 hI1 hS1 hL
end ROWS4
