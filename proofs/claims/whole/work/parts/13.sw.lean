/-- a method: name, code, locals, what it returns -/
abbrev MI : Type := MethodName × ByteArray × Nat × Option FieldType
def sg_C (G : SG) (y : MI) (d : Nat) (p : Program) (l : Launch) (R : Room) (s : State) (m : MethodId) (args : Array Value) (meth : Method) (c : Code) : Prop :=
  p.tables.exec = Jvm.exec ∧ c.code = y.2.1 ∧ c.maxLocals = y.2.2.1 ∧ meth.sig.returnType = y.2.2.2 ∧ meth.locks = false ∧ s.vm.findClass y.1.cls = some m.cls ∧ (∀ w ∈ wtab, w.before args s = true) ∧ sg_E G s ∧ d ≤ R.frames ∧ 37 * d ≤ R.locals ∧ l.stackTraces = false ∧ meth.name = y.1.name
section
variable {G : SG} {y : MI} {d : Nat} {p : Program} {l : Launch} {R : Room} {s : State} {m : MethodId} {args : Array Value} {meth : Method} {c : Code}
theorem sg_C.x (C : sg_C G y d p l R s m args meth c) : p.tables.exec = Jvm.exec := C.1
theorem sg_C.b (C : sg_C G y d p l R s m args meth c) : c.code = y.2.1 := C.2.1
theorem sg_C.ml (C : sg_C G y d p l R s m args meth c) : c.maxLocals = y.2.2.1 := C.2.2.1
theorem sg_C.rt (C : sg_C G y d p l R s m args meth c) : meth.sig.returnType = y.2.2.2 := C.2.2.2.1
theorem sg_C.lk (C : sg_C G y d p l R s m args meth c) : meth.locks = false := C.2.2.2.2.1
theorem sg_C.own (C : sg_C G y d p l R s m args meth c) : s.vm.findClass y.1.cls = some m.cls := C.2.2.2.2.2.1
theorem sg_C.ts (C : sg_C G y d p l R s m args meth c) : ∀ w ∈ wtab, w.before args s = true := C.2.2.2.2.2.2.1
theorem sg_C.E (C : sg_C G y d p l R s m args meth c) : sg_E G s := C.2.2.2.2.2.2.2.1
theorem sg_C.fr (C : sg_C G y d p l R s m args meth c) : d ≤ R.frames := C.2.2.2.2.2.2.2.2.1
theorem sg_C.lo (C : sg_C G y d p l R s m args meth c) : 37 * d ≤ R.locals := C.2.2.2.2.2.2.2.2.2.1
theorem sg_C.nt (C : sg_C G y d p l R s m args meth c) : l.stackTraces = false := C.2.2.2.2.2.2.2.2.2.2.1
theorem sg_C.nm (C : sg_C G y d p l R s m args meth c) : meth.name = y.1.name := C.2.2.2.2.2.2.2.2.2.2.2
end
/-- a method's end -/
def sg_Q (G : SG) (P : Option Value → AH → Prop) : Array Value → State → Outcome → State → Prop := fun _ st oc t => (∃ (r : Option Value) (h' : AH), oc = .returned (r.map (sg_tr G)) ∧ sg_I G h' t.heap ∧ P r h') ∧ va_F (sg_A G) st t
/-- from pc, with the locals L, the stack st, the cells h, method y ends with P (it may make bc cells more, of bs slots) -/
def SW (G : SG) (y : MI) (d bc bs pc : Nat) (L st : List Value) (h : AH) (P : Option Value → AH → Prop) : Prop :=
  ∀ (p : Program) (l : Launch) (e : Env) (R : Room) (s : State) (m : MethodId) (args : Array Value) (below : List Frame) (meth : Method) (c : Code) (H : Heap) (locs : List Loc) (ls : Array Slot) (cells slots mc ms : Nat),
    sg_C G y d p l R s m args meth c → cells + bc ≤ mc → slots + bs ≤ ms → mc ≤ R.cells → ms ≤ R.slots → sg_I G h H → va_S (sg_A G) s.heap H locs → sg_L G L y.2.2.1 ls →
    W p l e R s m args below meth c H locs cells slots (MQ below (sg_Q G P) args s mc ms (sg_A G)) (F0 m pc ls (st.map (sg_tr G)))
section ROWS
variable {G : SG} {y : MI} {d bc bs pc : Nat} {L st : List Value} {h : AH} {P : Option Value → AH → Prop}
theorem SW.mono {P' : Option Value → AH → Prop} (k : SW G y d bc bs pc L st h P) (hP : ∀ r h', P r h' → P' r h') : SW G y d bc bs pc L st h P' := by
  intro p l e R s m args below meth c H locs ls cells slots mc ms C h1 h2 h3 h4 hI hS hL T hT X
  obtain ⟨t, a1, o, b1, b2, ⟨⟨r, h', q1, q2, q3⟩, q4⟩, b4⟩ := k p l e R s m args below meth c H locs ls cells slots mc ms C h1 h2 h3 h4 hI hS hL T hT X
  exact ⟨t, a1, o, b1, b2, ⟨⟨r, h', q1, q2, hP _ _ q3⟩, q4⟩, b4⟩
-- pushes
theorem sw_iconst {n : Int} {v : Int32} (hd : decode y.2.1 pc = .ok (.iconst n, 1)) (hv : Int32.ofInt n = v) (k : SW G y d bc bs (pc + 1) L (.int v :: st) h P) : SW G y d bc bs pc L st h P := by
  intro p l e R s m args below meth c H locs ls cells slots mc ms C h1 h2 h3 h4 hI hS hL
  exact lv_iconst C.x C.b hd hv (k p l e R s m args below meth c H locs ls cells slots mc ms C h1 h2 h3 h4 hI hS hL)
theorem sw_bipush {n : Int} {v : Int32} (hd : decode y.2.1 pc = .ok (.bipush n, 2)) (hv : (Int8.ofInt n).toInt32 = v) (k : SW G y d bc bs (pc + 2) L (.int v :: st) h P) : SW G y d bc bs pc L st h P := by
  intro p l e R s m args below meth c H locs ls cells slots mc ms C h1 h2 h3 h4 hI hS hL
  exact lv_bipush C.x C.b hd hv (k p l e R s m args below meth c H locs ls cells slots mc ms C h1 h2 h3 h4 hI hS hL)
theorem sw_sipush {n : Int} {v : Int32} (hd : decode y.2.1 pc = .ok (.sipush n, 3)) (hv : (Int16.ofInt n).toInt32 = v) (k : SW G y d bc bs (pc + 3) L (.int v :: st) h P) : SW G y d bc bs pc L st h P := by
  intro p l e R s m args below meth c H locs ls cells slots mc ms C h1 h2 h3 h4 hI hS hL
  exact lv_sipush C.x C.b hd hv (k p l e R s m args below meth c H locs ls cells slots mc ms C h1 h2 h3 h4 hI hS hL)
theorem sw_lconst {n : Fin 2} {v : Int64} (hd : decode y.2.1 pc = .ok (.lconst n, 1)) (hv : Int64.ofNat (n : Nat) = v) (k : SW G y d bc bs (pc + 1) L (.long v :: st) h P) : SW G y d bc bs pc L st h P := by
  intro p l e R s m args below meth c H locs ls cells slots mc ms C h1 h2 h3 h4 hI hS hL
  exact lv_lconst C.x C.b hd hv (k p l e R s m args below meth c H locs ls cells slots mc ms C h1 h2 h3 h4 hI hS hL)
theorem sw_fconst0 (hd : decode y.2.1 pc = .ok (.fconst 0, 1)) (k : SW G y d bc bs (pc + 1) L (.float FP.fconst0 :: st) h P) : SW G y d bc bs pc L st h P := by
  intro p l e R s m args below meth c H locs ls cells slots mc ms C h1 h2 h3 h4 hI hS hL
  exact lv_fconst0 C.x C.b hd (k p l e R s m args below meth c H locs ls cells slots mc ms C h1 h2 h3 h4 hI hS hL)
theorem sw_fconst1 (hd : decode y.2.1 pc = .ok (.fconst 1, 1)) (k : SW G y d bc bs (pc + 1) L (.float FP.fconst1 :: st) h P) : SW G y d bc bs pc L st h P := by
  intro p l e R s m args below meth c H locs ls cells slots mc ms C h1 h2 h3 h4 hI hS hL
  exact lv_fconst1 C.x C.b hd (k p l e R s m args below meth c H locs ls cells slots mc ms C h1 h2 h3 h4 hI hS hL)
theorem sw_fconst2 (hd : decode y.2.1 pc = .ok (.fconst 2, 1)) (k : SW G y d bc bs (pc + 1) L (.float FP.fconst2 :: st) h P) : SW G y d bc bs pc L st h P := by
  intro p l e R s m args below meth c H locs ls cells slots mc ms C h1 h2 h3 h4 hI hS hL
  exact lv_fconst2 C.x C.b hd (k p l e R s m args below meth c H locs ls cells slots mc ms C h1 h2 h3 h4 hI hS hL)
theorem sw_ldc {ix : Nat} {v : Int32} (hd : decode y.2.1 pc = .ok (.ldc ix, 2)) (hw : Cond.constant y.1.cls ix v ∈ wtab) (k : SW G y d bc bs (pc + 2) L (.int v :: st) h P) : SW G y d bc bs pc L st h P := by
  intro p l e R s m args below meth c H locs ls cells slots mc ms C h1 h2 h3 h4 hI hS hL
  exact lv_ldc C.x C.b C.own (C.ts _ hw) hd (k p l e R s m args below meth c H locs ls cells slots mc ms C h1 h2 h3 h4 hI hS hL)
theorem sw_ldcw {ix : Nat} {v : Int32} (hd : decode y.2.1 pc = .ok (.ldc_w ix, 3)) (hw : Cond.constant y.1.cls ix v ∈ wtab) (k : SW G y d bc bs (pc + 3) L (.int v :: st) h P) : SW G y d bc bs pc L st h P := by
  intro p l e R s m args below meth c H locs ls cells slots mc ms C h1 h2 h3 h4 hI hS hL
  exact lv_ldcw C.x C.b C.own (C.ts _ hw) hd (k p l e R s m args below meth c H locs ls cells slots mc ms C h1 h2 h3 h4 hI hS hL)
theorem sw_ldcf {ix : Nat} {v : UInt32} (hd : decode y.2.1 pc = .ok (.ldc ix, 2)) (hw : Cond.constantFloat y.1.cls ix v ∈ wtab) (k : SW G y d bc bs (pc + 2) L (.float v :: st) h P) : SW G y d bc bs pc L st h P := by
  intro p l e R s m args below meth c H locs ls cells slots mc ms C h1 h2 h3 h4 hI hS hL
  exact lv_ldcf C.x C.b C.own (C.ts _ hw) hd (k p l e R s m args below meth c H locs ls cells slots mc ms C h1 h2 h3 h4 hI hS hL)
theorem sw_ldc2 {ix : Nat} {v : Int64} (hd : decode y.2.1 pc = .ok (.ldc2_w ix, 3)) (hw : Cond.constantLong y.1.cls ix v ∈ wtab) (k : SW G y d bc bs (pc + 3) L (.long v :: st) h P) : SW G y d bc bs pc L st h P := by
  intro p l e R s m args below meth c H locs ls cells slots mc ms C h1 h2 h3 h4 hI hS hL
  exact lv_ldc2 C.x C.b C.own (C.ts _ hw) hd (k p l e R s m args below meth c H locs ls cells slots mc ms C h1 h2 h3 h4 hI hS hL)
theorem sw_ldcS {ix a : Nat} {tx : String} (hd : decode y.2.1 pc = .ok (.ldc ix, 2)) (hq : (y.1.cls, ix, tx, a) ∈ ro_sr) (k : SW G y d bc bs (pc + 2) L (.ref a :: st) h P) : SW G y d bc bs pc L st h P := by
  intro p l e R s m args below meth c H locs ls cells slots mc ms C h1 h2 h3 h4 hI hS hL
  exact va_ldcS C.x C.b C.own (C.E.sr _ hq) hd (k p l e R s m args below meth c H locs ls cells slots mc ms C h1 h2 h3 h4 hI hS hL)
-- loads
theorem sw_iload_n {i : Fin 4} {x : Int32} (hd : decode y.2.1 pc = .ok (.iload_n i, 1)) (hl : L[(i : Nat)]? = some (.int x)) (k : SW G y d bc bs (pc + 1) L (.int x :: st) h P) : SW G y d bc bs pc L st h P := by
  intro p l e R s m args below meth c H locs ls cells slots mc ms C h1 h2 h3 h4 hI hS hL
  exact lv_iload_n C.x C.b hd rfl (hL.get hl (by simp)) (k p l e R s m args below meth c H locs ls cells slots mc ms C h1 h2 h3 h4 hI hS hL)
theorem sw_iload {i : Nat} {x : Int32} (hd : decode y.2.1 pc = .ok (.iload i, 2)) (hl : L[i]? = some (.int x)) (k : SW G y d bc bs (pc + 2) L (.int x :: st) h P) : SW G y d bc bs pc L st h P := by
  intro p l e R s m args below meth c H locs ls cells slots mc ms C h1 h2 h3 h4 hI hS hL
  exact lv_iload C.x C.b hd (hL.get hl (by simp)) (k p l e R s m args below meth c H locs ls cells slots mc ms C h1 h2 h3 h4 hI hS hL)
theorem sw_aload_n {i : Fin 4} {x : Nat} (hd : decode y.2.1 pc = .ok (.aload_n i, 1)) (hl : L[(i : Nat)]? = some (.ref x)) (k : SW G y d bc bs (pc + 1) L (.ref x :: st) h P) : SW G y d bc bs pc L st h P := by
  intro p l e R s m args below meth c H locs ls cells slots mc ms C h1 h2 h3 h4 hI hS hL
  exact lv_aload_n C.x C.b hd rfl (hL.get hl (by simp)) (k p l e R s m args below meth c H locs ls cells slots mc ms C h1 h2 h3 h4 hI hS hL)
theorem sw_aload {i : Nat} {x : Nat} (hd : decode y.2.1 pc = .ok (.aload i, 2)) (hl : L[i]? = some (.ref x)) (k : SW G y d bc bs (pc + 2) L (.ref x :: st) h P) : SW G y d bc bs pc L st h P := by
  intro p l e R s m args below meth c H locs ls cells slots mc ms C h1 h2 h3 h4 hI hS hL
  exact lv_aload C.x C.b hd (hL.get hl (by simp)) (k p l e R s m args below meth c H locs ls cells slots mc ms C h1 h2 h3 h4 hI hS hL)
theorem sw_lload_n {i : Fin 4} {x : Int64} (hd : decode y.2.1 pc = .ok (.lload_n i, 1)) (hl : L[(i : Nat)]? = some (.long x)) (k : SW G y d bc bs (pc + 1) L (.long x :: st) h P) : SW G y d bc bs pc L st h P := by
  intro p l e R s m args below meth c H locs ls cells slots mc ms C h1 h2 h3 h4 hI hS hL
  exact lv_lload_n C.x C.b hd rfl (hL.get hl (by simp)) (k p l e R s m args below meth c H locs ls cells slots mc ms C h1 h2 h3 h4 hI hS hL)
theorem sw_fload_n {i : Fin 4} {x : UInt32} (hd : decode y.2.1 pc = .ok (.fload_n i, 1)) (hl : L[(i : Nat)]? = some (.float x)) (k : SW G y d bc bs (pc + 1) L (.float x :: st) h P) : SW G y d bc bs pc L st h P := by
  intro p l e R s m args below meth c H locs ls cells slots mc ms C h1 h2 h3 h4 hI hS hL
  exact lv_fload_n C.x C.b hd rfl (hL.get hl (by simp)) (k p l e R s m args below meth c H locs ls cells slots mc ms C h1 h2 h3 h4 hI hS hL)
-- stores
def sg_okb (L : List Value) (i : Nat) : Bool := match i with
  | 0 => true
  | j + 1 => match L[j]? with
    | some (.long _) => false
    | some (.double _) => false
    | _ => true
theorem sg_okb_ok {L : List Value} {i : Nat} (hb : sg_okb L i = true) : sg_ok L i := by
  intro w hw
  cases i with
  | zero => exact Or.inl rfl
  | succ j =>
    rw [Nat.add_sub_cancel] at hw
    simp only [sg_okb, hw] at hb
    cases w <;> first | exact Or.inr rfl | (simp at hb; done) | cases hb
theorem sw_istore_n {i : Fin 4} {x : Int32} (hd : decode y.2.1 pc = .ok (.istore_n i, 1)) (hn : (i : Nat) < y.2.2.1) (hb : sg_okb L i = true) (k : SW G y d bc bs (pc + 1) (L.set i (.int x)) st h P) : SW G y d bc bs pc L (.int x :: st) h P := by
  intro p l e R s m args below meth c H locs ls cells slots mc ms C h1 h2 h3 h4 hI hS hL
  refine lv_istore_n C.x C.b hd rfl hL.has hn rfl (fun ls' hl' => ?_)
  exact k p l e R s m args below meth c H locs ls' cells slots mc ms C h1 h2 h3 h4 hI hS (hL.set1 C.E.fc (v := .int x) (sg_okb_ok hb) (by simp) hl')
theorem sw_istore {i : Nat} {x : Int32} (hd : decode y.2.1 pc = .ok (.istore i, 2)) (hn : i < y.2.2.1) (hb : sg_okb L i = true) (k : SW G y d bc bs (pc + 2) (L.set i (.int x)) st h P) : SW G y d bc bs pc L (.int x :: st) h P := by
  intro p l e R s m args below meth c H locs ls cells slots mc ms C h1 h2 h3 h4 hI hS hL
  refine lv_istore C.x C.b hd hL.has hn rfl (fun ls' hl' => ?_)
  exact k p l e R s m args below meth c H locs ls' cells slots mc ms C h1 h2 h3 h4 hI hS (hL.set1 C.E.fc (v := .int x) (sg_okb_ok hb) (by simp) hl')
theorem sw_astore_n {i : Fin 4} {x : Nat} (hd : decode y.2.1 pc = .ok (.astore_n i, 1)) (hn : (i : Nat) < y.2.2.1) (hb : sg_okb L i = true) (k : SW G y d bc bs (pc + 1) (L.set i (.ref x)) st h P) : SW G y d bc bs pc L (.ref x :: st) h P := by
  intro p l e R s m args below meth c H locs ls cells slots mc ms C h1 h2 h3 h4 hI hS hL
  refine lv_astore_n C.x C.b hd rfl hL.has hn rfl (fun ls' hl' => ?_)
  exact k p l e R s m args below meth c H locs ls' cells slots mc ms C h1 h2 h3 h4 hI hS (hL.set1 C.E.fc (v := .ref x) (sg_okb_ok hb) (by simp) hl')
theorem sw_astore {i : Nat} {x : Nat} (hd : decode y.2.1 pc = .ok (.astore i, 2)) (hn : i < y.2.2.1) (hb : sg_okb L i = true) (k : SW G y d bc bs (pc + 2) (L.set i (.ref x)) st h P) : SW G y d bc bs pc L (.ref x :: st) h P := by
  intro p l e R s m args below meth c H locs ls cells slots mc ms C h1 h2 h3 h4 hI hS hL
  refine lv_astore C.x C.b hd hL.has hn rfl (fun ls' hl' => ?_)
  exact k p l e R s m args below meth c H locs ls' cells slots mc ms C h1 h2 h3 h4 hI hS (hL.set1 C.E.fc (v := .ref x) (sg_okb_ok hb) (by simp) hl')
theorem sw_fstore_n {i : Fin 4} {x : UInt32} (hd : decode y.2.1 pc = .ok (.fstore_n i, 1)) (hn : (i : Nat) < y.2.2.1) (hb : sg_okb L i = true) (k : SW G y d bc bs (pc + 1) (L.set i (.float x)) st h P) : SW G y d bc bs pc L (.float x :: st) h P := by
  intro p l e R s m args below meth c H locs ls cells slots mc ms C h1 h2 h3 h4 hI hS hL
  refine lv_fstore_n C.x C.b hd rfl hL.has hn rfl (fun ls' hl' => ?_)
  exact k p l e R s m args below meth c H locs ls' cells slots mc ms C h1 h2 h3 h4 hI hS (hL.set1 C.E.fc (v := .float x) (sg_okb_ok hb) (by simp) hl')
theorem sw_lstore_n {i : Fin 4} {x : Int64} (hd : decode y.2.1 pc = .ok (.lstore_n i, 1)) (hn : (i : Nat) + 1 < y.2.2.1) (hb : sg_okb L i = true) (k : SW G y d bc bs (pc + 1) ((L.set i (.long x)).set ((i : Nat) + 1) (.retAddr 0)) st h P) : SW G y d bc bs pc L (.long x :: st) h P := by
  intro p l e R s m args below meth c H locs ls cells slots mc ms C h1 h2 h3 h4 hI hS hL
  refine lv_lstore_n C.x C.b hd rfl hL.has hn rfl (fun ls' hl' => ?_)
  exact k p l e R s m args below meth c H locs ls' cells slots mc ms C h1 h2 h3 h4 hI hS (hL.set2 C.E.fc (v := .long x) (sg_okb_ok hb) (by simp) hl')
theorem sw_iinc {i : Nat} {n : Int} {x v : Int32} (hd : decode y.2.1 pc = .ok (.iinc i n, 3)) (hl : L[i]? = some (.int x)) (hv : x + Int32.ofInt n = v) (hn : i < y.2.2.1) (hb : sg_okb L i = true) (k : SW G y d bc bs (pc + 3) (L.set i (.int v)) st h P) : SW G y d bc bs pc L st h P := by
  intro p l e R s m args below meth c H locs ls cells slots mc ms C h1 h2 h3 h4 hI hS hL
  obtain ⟨j, hj⟩ := List.getElem?_of_mem (sg_lv_mem.mpr ⟨.int x, hl, by simp, rfl⟩ : (i, Value.int x) ∈ sg_lv G L)
  refine lv_iinc C.x C.b hd hL.has (k := j) hj hv hn rfl (fun ls' hl' => ?_)
  exact k p l e R s m args below meth c H locs ls' cells slots mc ms C h1 h2 h3 h4 hI hS (hL.set1 C.E.fc (v := .int v) (sg_okb_ok hb) (by simp) hl')
end ROWS
