/-! the machine with any end -/
abbrev EX : Type := (Code → Prop) × (List Frame → Array Value → State → Nat → Nat → State → Prop)
def SX (G : SG) (y : MI) (d bc bs pc : Nat) (L st : List Value) (h : AH) (E : EX) : Prop :=
  ∀ (p : Program) (l : Launch) (e : Env) (R : Room) (s : State) (m : MethodId) (args : Array Value) (below : List Frame) (meth : Method) (c : Code) (H : Heap) (locs : List Loc) (ls : Array Slot) (cells slots mc ms : Nat),
    E.1 c → sg_C G y d p l R s m args meth c → cells + bc ≤ mc → slots + bs ≤ ms → mc ≤ R.cells → ms ≤ R.slots → sg_I G h H → va_S (sg_A G) s.heap H locs → sg_L G L y.2.2.1 ls →
    W p l e R s m args below meth c H locs cells slots (E.2 below args s mc ms) (F0 m pc ls (st.map (sg_tr G)))
section SXROWS
variable {G : SG} {y : MI} {d bc bs pc : Nat} {L st : List Value} {h : AH} {E : EX}
theorem SX.of {P : Option Value → AH → Prop} (k : SW G y d bc bs pc L st h P) (hE : ∀ below args s mc ms t, MQ below (sg_Q G P) args s mc ms (sg_A G) t → E.2 below args s mc ms t) : SX G y d bc bs pc L st h E := by
  intro p l e R s m args below meth c H locs ls cells slots mc ms hX C h1 h2 h3 h4 hI hS hL T hT X
  obtain ⟨t, a, b⟩ := k p l e R s m args below meth c H locs ls cells slots mc ms C h1 h2 h3 h4 hI hS hL T hT X
  exact ⟨t, a, hE _ _ _ _ _ _ b⟩
theorem sx_iconst {n : Int} {v : Int32} (hd : decode y.2.1 pc = .ok (.iconst n, 1)) (hv : Int32.ofInt n = v) (k : SX G y d bc bs (pc + 1) L (.int v :: st) h E) : SX G y d bc bs pc L st h E := by
  intro p l e R s m args below meth c H locs ls cells slots mc ms hX C h1 h2 h3 h4 hI hS hL
  exact lv_iconst C.x C.b hd hv (k p l e R s m args below meth c H locs ls cells slots mc ms hX C h1 h2 h3 h4 hI hS hL)
theorem sx_bipush {n : Int} {v : Int32} (hd : decode y.2.1 pc = .ok (.bipush n, 2)) (hv : (Int8.ofInt n).toInt32 = v) (k : SX G y d bc bs (pc + 2) L (.int v :: st) h E) : SX G y d bc bs pc L st h E := by
  intro p l e R s m args below meth c H locs ls cells slots mc ms hX C h1 h2 h3 h4 hI hS hL
  exact lv_bipush C.x C.b hd hv (k p l e R s m args below meth c H locs ls cells slots mc ms hX C h1 h2 h3 h4 hI hS hL)
theorem sx_iload_n {i : Fin 4} {x : Int32} (hd : decode y.2.1 pc = .ok (.iload_n i, 1)) (hl : L[(i : Nat)]? = some (.int x)) (k : SX G y d bc bs (pc + 1) L (.int x :: st) h E) : SX G y d bc bs pc L st h E := by
  intro p l e R s m args below meth c H locs ls cells slots mc ms hX C h1 h2 h3 h4 hI hS hL
  exact lv_iload_n C.x C.b hd rfl (hL.get hl (by simp)) (k p l e R s m args below meth c H locs ls cells slots mc ms hX C h1 h2 h3 h4 hI hS hL)
theorem sx_iload {i : Nat} {x : Int32} (hd : decode y.2.1 pc = .ok (.iload i, 2)) (hl : L[i]? = some (.int x)) (k : SX G y d bc bs (pc + 2) L (.int x :: st) h E) : SX G y d bc bs pc L st h E := by
  intro p l e R s m args below meth c H locs ls cells slots mc ms hX C h1 h2 h3 h4 hI hS hL
  exact lv_iload C.x C.b hd (hL.get hl (by simp)) (k p l e R s m args below meth c H locs ls cells slots mc ms hX C h1 h2 h3 h4 hI hS hL)
theorem sx_aload_n {i : Fin 4} {x : Nat} (hd : decode y.2.1 pc = .ok (.aload_n i, 1)) (hl : L[(i : Nat)]? = some (.ref x)) (k : SX G y d bc bs (pc + 1) L (.ref x :: st) h E) : SX G y d bc bs pc L st h E := by
  intro p l e R s m args below meth c H locs ls cells slots mc ms hX C h1 h2 h3 h4 hI hS hL
  exact lv_aload_n C.x C.b hd rfl (hL.get hl (by simp)) (k p l e R s m args below meth c H locs ls cells slots mc ms hX C h1 h2 h3 h4 hI hS hL)
theorem sx_astore_n {i : Fin 4} {x : Nat} (hd : decode y.2.1 pc = .ok (.astore_n i, 1)) (hn : (i : Nat) < y.2.2.1) (hb : sg_okb L i = true) (k : SX G y d bc bs (pc + 1) (L.set i (.ref x)) st h E) : SX G y d bc bs pc L (.ref x :: st) h E := by
  intro p l e R s m args below meth c H locs ls cells slots mc ms hX C h1 h2 h3 h4 hI hS hL
  refine lv_astore_n C.x C.b hd rfl hL.has hn rfl (fun ls' hl' => ?_)
  exact k p l e R s m args below meth c H locs ls' cells slots mc ms hX C h1 h2 h3 h4 hI hS (hL.set1 C.E.fc (v := .ref x) (sg_okb_ok hb) (by simp) hl')
theorem sx_istore {i : Nat} {x : Int32} (hd : decode y.2.1 pc = .ok (.istore i, 2)) (hn : i < y.2.2.1) (hb : sg_okb L i = true) (k : SX G y d bc bs (pc + 2) (L.set i (.int x)) st h E) : SX G y d bc bs pc L (.int x :: st) h E := by
  intro p l e R s m args below meth c H locs ls cells slots mc ms hX C h1 h2 h3 h4 hI hS hL
  refine lv_istore C.x C.b hd hL.has hn rfl (fun ls' hl' => ?_)
  exact k p l e R s m args below meth c H locs ls' cells slots mc ms hX C h1 h2 h3 h4 hI hS (hL.set1 C.E.fc (v := .int x) (sg_okb_ok hb) (by simp) hl')
theorem sx_istore_n {i : Fin 4} {x : Int32} (hd : decode y.2.1 pc = .ok (.istore_n i, 1)) (hn : (i : Nat) < y.2.2.1) (hb : sg_okb L i = true) (k : SX G y d bc bs (pc + 1) (L.set i (.int x)) st h E) : SX G y d bc bs pc L (.int x :: st) h E := by
  intro p l e R s m args below meth c H locs ls cells slots mc ms hX C h1 h2 h3 h4 hI hS hL
  refine lv_istore_n C.x C.b hd rfl hL.has hn rfl (fun ls' hl' => ?_)
  exact k p l e R s m args below meth c H locs ls' cells slots mc ms hX C h1 h2 h3 h4 hI hS (hL.set1 C.E.fc (v := .int x) (sg_okb_ok hb) (by simp) hl')
theorem sx_isub {x z : Int32} (hd : decode y.2.1 pc = .ok (.isub, 1)) (k : SX G y d bc bs (pc + 1) L (.int (x - z) :: st) h E) : SX G y d bc bs pc L (.int z :: .int x :: st) h E := by
  intro p l e R s m args below meth c H locs ls cells slots mc ms hX C h1 h2 h3 h4 hI hS hL
  exact lv_isub C.x C.b hd (k p l e R s m args below meth c H locs ls cells slots mc ms hX C h1 h2 h3 h4 hI hS hL)
theorem sx_ifne {x : Int32} {off : Int} {tgt : Nat} (hd : decode y.2.1 pc = .ok (.ifCond .ne off, 3)) (ht : (pc : Int) + off = (tgt : Int)) (kt : ¬ x = 0 → SX G y d bc bs tgt L st h E) (kf : x = 0 → SX G y d bc bs (pc + 3) L st h E) : SX G y d bc bs pc L (.int x :: st) h E := by
  intro p l e R s m args below meth c H locs ls cells slots mc ms hX C h1 h2 h3 h4 hI hS hL
  exact lv_if_ne C.x C.b hd ht (fun hc => kt hc p l e R s m args below meth c H locs ls cells slots mc ms hX C h1 h2 h3 h4 hI hS hL) (fun hc => kf hc p l e R s m args below meth c H locs ls cells slots mc ms hX C h1 h2 h3 h4 hI hS hL)
theorem sx_ifeq {x : Int32} {off : Int} {tgt : Nat} (hd : decode y.2.1 pc = .ok (.ifCond .eq off, 3)) (ht : (pc : Int) + off = (tgt : Int)) (kt : x = 0 → SX G y d bc bs tgt L st h E) (kf : ¬ x = 0 → SX G y d bc bs (pc + 3) L st h E) : SX G y d bc bs pc L (.int x :: st) h E := by
  intro p l e R s m args below meth c H locs ls cells slots mc ms hX C h1 h2 h3 h4 hI hS hL
  exact lv_if_eq C.x C.b hd ht (fun hc => kt hc p l e R s m args below meth c H locs ls cells slots mc ms hX C h1 h2 h3 h4 hI hS hL) (fun hc => kf hc p l e R s m args below meth c H locs ls cells slots mc ms hX C h1 h2 h3 h4 hI hS hL)
theorem sx_cmplt {x z : Int32} {off : Int} {tgt : Nat} (hd : decode y.2.1 pc = .ok (.if_icmp .lt off, 3)) (ht : (pc : Int) + off = (tgt : Int)) (kt : x < z → SX G y d bc bs tgt L st h E) (kf : ¬ x < z → SX G y d bc bs (pc + 3) L st h E) : SX G y d bc bs pc L (.int z :: .int x :: st) h E := by
  intro p l e R s m args below meth c H locs ls cells slots mc ms hX C h1 h2 h3 h4 hI hS hL
  exact lv_icmp_lt C.x C.b hd ht (fun hc => kt hc p l e R s m args below meth c H locs ls cells slots mc ms hX C h1 h2 h3 h4 hI hS hL) (fun hc => kf hc p l e R s m args below meth c H locs ls cells slots mc ms hX C h1 h2 h3 h4 hI hS hL)
theorem sx_tsOut {dflt lo hi : Int} {offs : Array Int} {len : Nat} {x : Int32} {tgt : Nat} (hd : decode y.2.1 pc = .ok (.tableswitch dflt lo hi offs, len)) (g1 : x.toInt < lo ∨ hi < x.toInt) (ht : (pc : Int) + dflt = (tgt : Int)) (k : SX G y d bc bs tgt L st h E) : SX G y d bc bs pc L (.int x :: st) h E := by
  intro p l e R s m args below meth c H locs ls cells slots mc ms hX C h1 h2 h3 h4 hI hS hL
  exact lv_tableOut C.x C.b hd g1 ht (k p l e R s m args below meth c H locs ls cells slots mc ms hX C h1 h2 h3 h4 hI hS hL)
theorem sx_dup {v : Value} (hd : decode y.2.1 pc = .ok (.dup, 1)) (hv : v.category = 1) (k : SX G y d bc bs (pc + 1) L (v :: v :: st) h E) : SX G y d bc bs pc L (v :: st) h E := by
  intro p l e R s m args below meth c H locs ls cells slots mc ms hX C h1 h2 h3 h4 hI hS hL
  exact lv_dup C.x C.b hd (by rw [sg_catT C.E.fc]; exact hv) (k p l e R s m args below meth c H locs ls cells slots mc ms hX C h1 h2 h3 h4 hI hS hL)
theorem sx_getf {ix ci kf a : Nat} {ty : FieldType} {fin : Bool} {fs : List Value} {v : Value} (hd : decode y.2.1 pc = .ok (.getfield ix, 3)) (hf : fl_ok y.1.cls ix ci kf ty fin) (hk : h[a]? = some (.inr (ci, fs))) (hv : fs[kf]? = some v) (k : SX G y d bc bs (pc + 3) L (v :: st) h E) : SX G y d bc bs pc L (.ref a :: st) h E := by
  intro p l e R s m args below meth c H locs ls cells slots mc ms hX C h1 h2 h3 h4 hI hS hL
  obtain ⟨C0, T, N, ty0, hc, hkN, hw, hin, hty, hnm, -, -, -⟩ := hf
  have he : (sg_en G h)[a]? = some (sg_ad G a, .inr (ci, fs.map (sg_tr G))) := hI.at hk
  exact va_get C.x C.b C.ts hin C.own C.E.K hI.1 a he hc kf hkN (C.ts _ hw) (fun _ q => q) (v := sg_tr G v) (by rw [List.getElem?_map, hv]; rfl) hd (k p l e R s m args below meth c H locs ls cells slots mc ms hX C h1 h2 h3 h4 hI hS hL)
theorem sx_callS {ix n bc' bs' : Nat} {y' : MI} (as : List Value) {L0 : List Value} {st0 : List Value} {P' : Option Value → AH → Prop} (hd : decode y.2.1 pc = .ok (.invokestatic ix, 3)) (hy : mi_ok y') (hw : Cond.methodLink y.1.cls ix y'.1 ∈ wtab) (hs : Cond.static y'.1 ∈ wtab) (hp : pn_ok y' n) (hn : as.length = n) (hle : as.length ≤ y'.2.2.1) (has : ∀ v ∈ as, v.category = 1) (hst : st0 = as.reverse ++ st) (hrm : (st.map fun v => v.category).sum ≤ 8)
    (hL0 : L0 = as ++ List.replicate (y'.2.2.1 - as.length) (.retAddr 0)) (hM : SW G y' d bc' bs' 0 L0 [] h P') (kk : ∀ r h', P' r h' → SX G y (d + 1) bc bs (pc + 3) L (r.toList ++ st) h' E) : SX G y (d + 1) (bc + bc') (bs + bs') pc L st0 h E := by
  intro p l e R s m args below meth c H locs ls cells slots mc ms hX C h1 h2 h3 h4 hI hS hL
  subst hst
  have hlo := C.lo
  have hfr := C.fr
  have hml := hy.2.2.2.2
  have cw : CallB R s args y.1.cls ix y'.1 y'.2.1 y'.2.2.1 y'.2.2.2 (Cond.code y'.1 y'.2.1 y'.2.2.1 y'.2.2.2 :: wtab) ({ frames := d, cells := bc', slots := bs', locals := 37 * d } : Room) bc' bs' n ∧ (Cond.static y'.1).before args s = true :=
    ⟨callB_of n C.ts (mi_good hy) rfl rfl rfl (C.ts _ hy.2.2.1) (C.ts _ hw) ⟨hy.2.2.2.1.1, hy.2.2.2.1.2, hp⟩ ⟨hfr, by show 8 + (y'.2.2.1 + 11) + 37 * d ≤ _; omega⟩, C.ts _ hs⟩
  refine sw_fin (st := st) (va_runS (As := as.map (sg_tr G)) (rest := st.map (sg_tr G)) ⟨C.x, C.b, C.ml, C.own, C.ts⟩ (sw_met C.nt hy has hle hL0 hM) cw ⟨sw_blind, fun U hU hW => ⟨rfl, sw_preE C.E hS hU hW, by rw [hU]; exact hI⟩⟩ rfl (by rw [List.length_map]; exact hn) hL.1 (by rw [List.map_append, List.map_reverse]) (lv_room (by rw [List.map_map]; rw [show ((fun v : Value => v.category) ∘ sg_tr G) = (fun v => v.category) from funext fun v => sg_catT C.E.fc v]; exact hrm)) hd ⟨by omega, by omega⟩) hS (fun r h' H1 locs1 hp' hI1 hS1 => ?_)
  exact kk r h' hp' p l e R s m args below meth c H1 locs1 ls _ _ mc ms hX C (by omega) (by omega) h3 h4 hI1 hS1 hL
theorem sx_callV {ix n b bc' bs' : Nat} {y' : MI} (as : List Value) {L0 : List Value} {st0 : List Value} {P' : Option Value → AH → Prop} (hd : decode y.2.1 pc = .ok (.invokevirtual ix, 3)) (hy : mi_ok y') (hw : Cond.methodLink y.1.cls ix y'.1 ∈ wtab) (hi : Cond.instanceMethod y'.1 ∈ wtab) (hse : Cond.selects y'.1.cls y'.1 y'.1 ∈ lw_tbl) (hsg : goodWord (Cond.selects y'.1.cls y'.1 y'.1) = true) (hp : pn_ok y' n) (hn : as.length = n) (hle : as.length + 1 ≤ y'.2.2.1) (has : ∀ v ∈ as, v.category = 1) (hst : st0 = as.reverse ++ .ref b :: st) (hrm : (st.map fun v => v.category).sum ≤ 8) (hr : rc_ok h y'.1.cls b)
    (hL0 : L0 = (.ref b :: as) ++ List.replicate (y'.2.2.1 - (as.length + 1)) (.retAddr 0)) (hM : SW G y' d bc' bs' 0 L0 [] h P') (kk : ∀ r h', P' r h' → SX G y (d + 1) bc bs (pc + 3) L (r.toList ++ st) h' E) : SX G y (d + 1) (bc + bc') (bs + bs') pc L st0 h E := by
  intro p l e R s m args below meth c H locs ls cells slots mc ms hX C h1 h2 h3 h4 hI hS hL
  subst hst
  have hlo := C.lo
  have hfr := C.fr
  have hml := hy.2.2.2.2
  have cw : CallW R s args y.1.cls y'.1.cls ix y'.1 y'.2.1 y'.2.2.1 y'.2.2.2 (Cond.code y'.1 y'.2.1 y'.2.2.1 y'.2.2.2 :: wtab) ({ frames := d, cells := bc', slots := bs', locals := 37 * d } : Room) bc' bs' n :=
    ⟨callB_of n C.ts (mi_good hy) rfl rfl rfl (C.ts _ hy.2.2.1) (C.ts _ hw) ⟨hy.2.2.2.1.1, hy.2.2.2.1.2, hp⟩ ⟨hfr, by show 8 + (y'.2.2.1 + 11) + 37 * d ≤ _; omega⟩, C.ts _ hi, C.ts _ (List.mem_filter.mpr ⟨hse, hsg⟩)⟩
  have has' : ∀ v ∈ (.ref b :: as : List Value), v.category = 1 := fun v hv => by
    rcases List.mem_cons.mp hv with rfl | hv
    · rfl
    · exact has v hv
  refine sw_fin (st := st) (va_runV (b := sg_ad G b) (As := as.map (sg_tr G)) (rest := st.map (sg_tr G)) ⟨C.x, C.b, C.ml, C.own, C.ts⟩ (sw_met C.nt hy has' hle hL0 hM) cw ⟨sw_blind, rc_cell C.E hI hS hr, fun U hU hW => ⟨rfl, sw_preE C.E hS hU hW, by rw [hU]; exact hI⟩⟩ rfl (by rw [List.length_map]; exact hn) hL.1 (by rw [List.map_append, List.map_reverse]; rfl) (lv_room (by rw [List.map_map]; rw [show ((fun v : Value => v.category) ∘ sg_tr G) = (fun v => v.category) from funext fun v => sg_catT C.E.fc v]; exact hrm)) hd ⟨by omega, by omega⟩) hS (fun r h' H1 locs1 hp' hI1 hS1 => ?_)
  exact kk r h' hp' p l e R s m args below meth c H1 locs1 ls _ _ mc ms hX C (by omega) (by omega) h3 h4 hI1 hS1 hL
theorem sx_callI {ix n b bc' bs' : Nat} {y' : MI} (as : List Value) {L0 : List Value} {st0 : List Value} {P' : Option Value → AH → Prop} (hd : decode y.2.1 pc = .ok (.invokespecial ix, 3)) (hy : mi_ok y') (hw : Cond.methodLink y.1.cls ix y'.1 ∈ wtab) (hi : Cond.instanceMethod y'.1 ∈ wtab) (hin : y'.1.name = "<init>") (hrt : y'.2.2.2 = none) (hp : pn_ok y' n) (hn : as.length = n) (hle : as.length + 1 ≤ y'.2.2.1) (has : ∀ v ∈ as, v.category = 1) (hst : st0 = as.reverse ++ .ref b :: st) (hrm : (st.map fun v => v.category).sum ≤ 8)
    (hL0 : L0 = (.ref b :: as) ++ List.replicate (y'.2.2.1 - (as.length + 1)) (.retAddr 0)) (hM : SW G y' d bc' bs' 0 L0 [] h P') (kk : ∀ r h', P' r h' → SX G y (d + 1) bc bs (pc + 3) L (r.toList ++ st) h' E) : SX G y (d + 1) (bc + bc') (bs + bs') pc L st0 h E := by
  intro p l e R s m args below meth c H locs ls cells slots mc ms hX C h1 h2 h3 h4 hI hS hL
  subst hst
  have hlo := C.lo
  have hfr := C.fr
  have hml := hy.2.2.2.2
  have hM1 := sw_met (as := .ref b :: as) C.nt hy (fun v hv => by
    rcases List.mem_cons.mp hv with rfl | hv
    · rfl
    · exact has v hv) hle hL0 hM
  have hg := mi_good hy
  rw [hrt] at hM1 hg
  have cw : CallB R s args y.1.cls ix y'.1 y'.2.1 y'.2.2.1 none (Cond.code y'.1 y'.2.1 y'.2.2.1 none :: wtab) ({ frames := d, cells := bc', slots := bs', locals := 37 * d } : Room) bc' bs' n ∧ y'.1.name = "<init>" ∧ (Cond.instanceMethod y'.1).before args s = true :=
    ⟨callB_of n C.ts hg rfl rfl rfl (C.ts _ hy.2.2.1) (C.ts _ hw) ⟨hy.2.2.2.1.1, hy.2.2.2.1.2, hp⟩ ⟨hfr, by show 8 + (y'.2.2.1 + 11) + 37 * d ≤ _; omega⟩, hin, C.ts _ hi⟩
  refine sw_fin (st := st) (va_runI (b := sg_ad G b) (As := as.map (sg_tr G)) (rest := st.map (sg_tr G)) ⟨C.x, C.b, C.ml, C.own, C.ts⟩ hM1 cw ⟨sw_blind, fun U hU hW => ⟨rfl, sw_preE C.E hS hU hW, by rw [hU]; exact hI⟩⟩ rfl (by rw [List.length_map]; exact hn) hL.1 (by rw [List.map_append, List.map_reverse]; rfl) (lv_room (by rw [List.map_map]; rw [show ((fun v : Value => v.category) ∘ sg_tr G) = (fun v => v.category) from funext fun v => sg_catT C.E.fc v]; exact hrm)) hd ⟨by omega, by omega⟩) hS (fun r h' H1 locs1 hp' hI1 hS1 => ?_)
  exact kk r h' hp' p l e R s m args below meth c H1 locs1 ls _ _ mc ms hX C (by omega) (by omega) h3 h4 hI1 hS1 hL
theorem sx_new {ix ci : Nat} {fs : List Value} (hd : decode y.2.1 pc = .ok (.new ix, 3)) (hw : nw_ok y.1.cls ix ci fs) (hfs : fs.map (sg_tr G) = fs) (hal : sg_al G = true) (hl : h.length < 1000) (k : SX G y d bc bs (pc + 3) L (.ref h.length :: st) (h ++ [.inr (ci, fs)]) E) : SX G y d (bc + 1) (bs + fs.length) pc L st h E := by
  intro p l e R s m args below meth c H locs ls cells slots mc ms hX C h1 h2 h3 h4 hI hS hL
  obtain ⟨C0, T, N, ty, hc, hcl, hins, hini, hin, hty, hdf, hfl⟩ := hw
  have hKn := C.E.K.1 ci _ hc
  refine W.newcK C.x C.b C.own (C.ts _ hcl) (C.ts _ hins) (C.ts _ hini) rfl hd (by omega) (by omega) hKn.2.1 rfl fun H1 kC hkC e1 z1 o1 => ?_
  have hat : va_at (sg_D G) vwCl (H.size, sg_te G (.inr (ci, fs))) H1 := by
    refine ⟨_, hc, (u_born ty C.ts hin hKn hkC e1 hty).to (fun j hj => ?_)⟩
    rw [hfs]
    exact hdf j hj
  obtain ⟨hI1, hsz⟩ := hI.push hal hl hat z1 o1
  have k1 := k p l e R s m args below meth c H1 locs ls (cells + 1) (slots + N) mc ms hX C (by omega) (by omega) h3 h4 hI1 ⟨Nat.le_trans hS.1 (by omega), fun x g1 g2 => (o1 x (Nat.lt_of_lt_of_le g1 hS.1)).trans (hS.2.1 x g1 g2), hS.2.2⟩ hL
  rw [hsz]
  exact k1
theorem sx_newal {n : Int32} {N : Nat} (hd : decode y.2.1 pc = .ok (.newarray .long, 2)) (hw : Cond.arrayClass .long ∈ wtab) (hn : ¬ n < 0) (hN : n.toNatClampNeg = N) (hb : N ≤ 1000) (hal : sg_al G = true) (hl : h.length < 1000) (k : SX G y d bc bs (pc + 2) L (.ref h.length :: st) (h ++ [.inl (2, N, .inr (.inl (fun _ => 0)))]) E) : SX G y d (bc + 1) (bs + N) pc L (.int n :: st) h E := by
  intro p l e R s m args below meth c H locs ls cells slots mc ms hX C h1 h2 h3 h4 hI hS hL
  refine va_newaK C.x C.b (atype := .long) (C.ts _ hw) rfl hd rfl hn hN (by show N * componentBytes .long ≤ _; simp [componentBytes]; omega) (by omega) (by omega) rfl fun H1 cA e1 z1 o1 hAr hNm => ?_
  have hcA : cA = sg_t G 2 := by
    have g := (C.E.K.2 2 _ rfl).2
    exact Option.some.inj (hNm.symm.trans g)
  subst hcA
  have hat : va_at (sg_D G) vwCl (H.size, sg_te G (.inl (2, N, .inr (.inl (fun _ => 0))))) H1 := by
    show H1[H.size]? = some (vp_cell _ _)
    rw [vp_cell_l]
    exact e1
  obtain ⟨hI1, hsz⟩ := hI.push hal hl hat z1 o1
  have k1 := k p l e R s m args below meth c H1 locs ls (cells + 1) (slots + N) mc ms hX C (by omega) (by omega) h3 h4 hI1 ⟨Nat.le_trans hS.1 (by omega), fun x g1 g2 => (o1 x (Nat.lt_of_lt_of_le g1 hS.1)).trans (hS.2.1 x g1 g2), hS.2.2⟩ hL
  rw [hsz]
  exact k1
theorem sx_cv1 {ix b : Nat} {y' : MI} {a1 : Value} {L0 : List Value} {P' : Option Value → AH → Prop} (hd : decode y.2.1 pc = .ok (.invokevirtual ix, 3)) (hc : cv_ok y.1.cls ix y' 1) (hr : rc_ok h y'.1.cls b) (hM : SW G y' d 0 0 0 L0 [] h P') (kk : ∀ r h', P' r h' → SX G y (d + 1) bc bs (pc + 3) L (r.toList ++ st) h' E) (q1 : a1.category = 1 := by rfl) (hrm : (st.map fun v => v.category).sum ≤ 8 := by exact Nat.le_of_ble_eq_true rfl) (hL0 : L0 = .ref b :: a1 :: List.replicate (y'.2.2.1 - 2) (.retAddr 0) := by rfl) : SX G y (d + 1) bc bs pc L (a1 :: .ref b :: st) h E :=
  sx_callV (bc := bc) (bs := bs) (bc' := 0) (bs' := 0) [a1] hd hc.1 hc.2.1 hc.2.2.1 hc.2.2.2.1 hc.2.2.2.2.1 hc.2.2.2.2.2.1 rfl hc.2.2.2.2.2.2 (fun v hv => by simp only [List.mem_cons, List.not_mem_nil, or_false] at hv; rcases hv with rfl <;> assumption) rfl hrm hr hL0 hM kk
theorem sx_cs1 {ix : Nat} {y' : MI} {a1 : Value} {L0 : List Value} {P' : Option Value → AH → Prop} (hd : decode y.2.1 pc = .ok (.invokestatic ix, 3)) (hc : cs_ok y.1.cls ix y' 1) (hM : SW G y' d 0 0 0 L0 [] h P') (kk : ∀ r h', P' r h' → SX G y (d + 1) bc bs (pc + 3) L (r.toList ++ st) h' E) (q1 : a1.category = 1 := by rfl) (hrm : (st.map fun v => v.category).sum ≤ 8 := by exact Nat.le_of_ble_eq_true rfl) (hL0 : L0 = a1 :: List.replicate (y'.2.2.1 - 1) (.retAddr 0) := by rfl) : SX G y (d + 1) bc bs pc L (a1 :: st) h E :=
  sx_callS (bc := bc) (bs := bs) (bc' := 0) (bs' := 0) [a1] hd hc.1 hc.2.1 hc.2.2.1 hc.2.2.2.1 rfl hc.2.2.2.2 (fun v hv => by simp only [List.mem_cons, List.not_mem_nil, or_false] at hv; rcases hv with rfl <;> assumption) rfl hrm hL0 hM kk
theorem sx_pcv1 {ix b : Nat} {y' : MI} {a1 : Value} {L0 : List Value} {v : Value} (hd : decode y.2.1 pc = .ok (.invokevirtual ix, 3)) (hc : cv_ok y.1.cls ix y' 1) (hr : rc_ok h y'.1.cls b) (hM : SW G y' d 0 0 0 L0 [] h (fun r h' => r = some v ∧ h' = h)) (k : SX G y (d + 1) bc bs (pc + 3) L (v :: st) h E) (q1 : a1.category = 1 := by rfl) (hrm : (st.map fun v => v.category).sum ≤ 8 := by exact Nat.le_of_ble_eq_true rfl) (hL0 : L0 = .ref b :: a1 :: List.replicate (y'.2.2.1 - 2) (.retAddr 0) := by rfl) : SX G y (d + 1) bc bs pc L (a1 :: .ref b :: st) h E :=
  sx_cv1 hd hc hr hM (fun r g q => by obtain ⟨rfl, rfl⟩ := q; exact k) q1 hrm hL0
theorem sx_pcs1 {ix : Nat} {y' : MI} {a1 : Value} {L0 : List Value} {v : Value} (hd : decode y.2.1 pc = .ok (.invokestatic ix, 3)) (hc : cs_ok y.1.cls ix y' 1) (hM : SW G y' d 0 0 0 L0 [] h (fun r h' => r = some v ∧ h' = h)) (k : SX G y (d + 1) bc bs (pc + 3) L (v :: st) h E) (q1 : a1.category = 1 := by rfl) (hrm : (st.map fun v => v.category).sum ≤ 8 := by exact Nat.le_of_ble_eq_true rfl) (hL0 : L0 = a1 :: List.replicate (y'.2.2.1 - 1) (.retAddr 0) := by rfl) : SX G y (d + 1) bc bs pc L (a1 :: st) h E :=
  sx_cs1 hd hc hM (fun r g q => by obtain ⟨rfl, rfl⟩ := q; exact k) q1 hrm hL0
end SXROWS
section GVROWS
variable {G : SG} {y : MI} {d bc bs pc : Nat} {L st : List Value} {h : AH} {P : Option Value → AH → Prop}
theorem sw_gv0 {ix b : Nat} {y' : MI} {L0 : List Value} {P' : Option Value → AH → Prop} (hd : decode y.2.1 pc = .ok (.invokevirtual ix, 3)) (hc : cv_ok y.1.cls ix y' 0) (hr : rc_ok h y'.1.cls b) (hM : SW G y' d 0 0 0 L0 [] h P') (kk : ∀ r h', P' r h' → SW G y (d + 1) bc bs (pc + 3) L (r.toList ++ st) h' P)  (hrm : (st.map fun v => v.category).sum ≤ 8 := by exact Nat.le_of_ble_eq_true rfl) (hL0 : L0 = .ref b :: List.replicate (y'.2.2.1 - 1) (.retAddr 0) := by rfl) : SW G y (d + 1) bc bs pc L (.ref b :: st) h P :=
  sw_callV (bc := bc) (bs := bs) (bc' := 0) (bs' := 0) [] hd hc.1 hc.2.1 hc.2.2.1 hc.2.2.2.1 hc.2.2.2.2.1 hc.2.2.2.2.2.1 rfl hc.2.2.2.2.2.2 (fun v hv => by cases hv) rfl hrm hr hL0 hM kk
theorem sw_gv1 {ix b : Nat} {y' : MI} {a1 : Value} {L0 : List Value} {P' : Option Value → AH → Prop} (hd : decode y.2.1 pc = .ok (.invokevirtual ix, 3)) (hc : cv_ok y.1.cls ix y' 1) (hr : rc_ok h y'.1.cls b) (hM : SW G y' d 0 0 0 L0 [] h P') (kk : ∀ r h', P' r h' → SW G y (d + 1) bc bs (pc + 3) L (r.toList ++ st) h' P) (q1 : a1.category = 1 := by rfl) (hrm : (st.map fun v => v.category).sum ≤ 8 := by exact Nat.le_of_ble_eq_true rfl) (hL0 : L0 = .ref b :: a1 :: List.replicate (y'.2.2.1 - 2) (.retAddr 0) := by rfl) : SW G y (d + 1) bc bs pc L (a1 :: .ref b :: st) h P :=
  sw_callV (bc := bc) (bs := bs) (bc' := 0) (bs' := 0) [a1] hd hc.1 hc.2.1 hc.2.2.1 hc.2.2.2.1 hc.2.2.2.2.1 hc.2.2.2.2.2.1 rfl hc.2.2.2.2.2.2 (fun v hv => by simp only [List.mem_cons, List.not_mem_nil, or_false] at hv; rcases hv with rfl <;> assumption) rfl hrm hr hL0 hM kk
theorem sw_gv2 {ix b : Nat} {y' : MI} {a1 a2 : Value} {L0 : List Value} {P' : Option Value → AH → Prop} (hd : decode y.2.1 pc = .ok (.invokevirtual ix, 3)) (hc : cv_ok y.1.cls ix y' 2) (hr : rc_ok h y'.1.cls b) (hM : SW G y' d 0 0 0 L0 [] h P') (kk : ∀ r h', P' r h' → SW G y (d + 1) bc bs (pc + 3) L (r.toList ++ st) h' P) (q1 : a1.category = 1 := by rfl) (q2 : a2.category = 1 := by rfl) (hrm : (st.map fun v => v.category).sum ≤ 8 := by exact Nat.le_of_ble_eq_true rfl) (hL0 : L0 = .ref b :: a1 :: a2 :: List.replicate (y'.2.2.1 - 3) (.retAddr 0) := by rfl) : SW G y (d + 1) bc bs pc L (a2 :: a1 :: .ref b :: st) h P :=
  sw_callV (bc := bc) (bs := bs) (bc' := 0) (bs' := 0) [a1, a2] hd hc.1 hc.2.1 hc.2.2.1 hc.2.2.2.1 hc.2.2.2.2.1 hc.2.2.2.2.2.1 rfl hc.2.2.2.2.2.2 (fun v hv => by simp only [List.mem_cons, List.not_mem_nil, or_false] at hv; rcases hv with rfl | rfl <;> assumption) rfl hrm hr hL0 hM kk
theorem sw_gv3 {ix b : Nat} {y' : MI} {a1 a2 a3 : Value} {L0 : List Value} {P' : Option Value → AH → Prop} (hd : decode y.2.1 pc = .ok (.invokevirtual ix, 3)) (hc : cv_ok y.1.cls ix y' 3) (hr : rc_ok h y'.1.cls b) (hM : SW G y' d 0 0 0 L0 [] h P') (kk : ∀ r h', P' r h' → SW G y (d + 1) bc bs (pc + 3) L (r.toList ++ st) h' P) (q1 : a1.category = 1 := by rfl) (q2 : a2.category = 1 := by rfl) (q3 : a3.category = 1 := by rfl) (hrm : (st.map fun v => v.category).sum ≤ 8 := by exact Nat.le_of_ble_eq_true rfl) (hL0 : L0 = .ref b :: a1 :: a2 :: a3 :: List.replicate (y'.2.2.1 - 4) (.retAddr 0) := by rfl) : SW G y (d + 1) bc bs pc L (a3 :: a2 :: a1 :: .ref b :: st) h P :=
  sw_callV (bc := bc) (bs := bs) (bc' := 0) (bs' := 0) [a1, a2, a3] hd hc.1 hc.2.1 hc.2.2.1 hc.2.2.2.1 hc.2.2.2.2.1 hc.2.2.2.2.2.1 rfl hc.2.2.2.2.2.2 (fun v hv => by simp only [List.mem_cons, List.not_mem_nil, or_false] at hv; rcases hv with rfl | rfl | rfl <;> assumption) rfl hrm hr hL0 hM kk
theorem sw_gv4 {ix b : Nat} {y' : MI} {a1 a2 a3 a4 : Value} {L0 : List Value} {P' : Option Value → AH → Prop} (hd : decode y.2.1 pc = .ok (.invokevirtual ix, 3)) (hc : cv_ok y.1.cls ix y' 4) (hr : rc_ok h y'.1.cls b) (hM : SW G y' d 0 0 0 L0 [] h P') (kk : ∀ r h', P' r h' → SW G y (d + 1) bc bs (pc + 3) L (r.toList ++ st) h' P) (q1 : a1.category = 1 := by rfl) (q2 : a2.category = 1 := by rfl) (q3 : a3.category = 1 := by rfl) (q4 : a4.category = 1 := by rfl) (hrm : (st.map fun v => v.category).sum ≤ 8 := by exact Nat.le_of_ble_eq_true rfl) (hL0 : L0 = .ref b :: a1 :: a2 :: a3 :: a4 :: List.replicate (y'.2.2.1 - 5) (.retAddr 0) := by rfl) : SW G y (d + 1) bc bs pc L (a4 :: a3 :: a2 :: a1 :: .ref b :: st) h P :=
  sw_callV (bc := bc) (bs := bs) (bc' := 0) (bs' := 0) [a1, a2, a3, a4] hd hc.1 hc.2.1 hc.2.2.1 hc.2.2.2.1 hc.2.2.2.2.1 hc.2.2.2.2.2.1 rfl hc.2.2.2.2.2.2 (fun v hv => by simp only [List.mem_cons, List.not_mem_nil, or_false] at hv; rcases hv with rfl | rfl | rfl | rfl <;> assumption) rfl hrm hr hL0 hM kk
theorem sw_gv5 {ix b : Nat} {y' : MI} {a1 a2 a3 a4 a5 : Value} {L0 : List Value} {P' : Option Value → AH → Prop} (hd : decode y.2.1 pc = .ok (.invokevirtual ix, 3)) (hc : cv_ok y.1.cls ix y' 5) (hr : rc_ok h y'.1.cls b) (hM : SW G y' d 0 0 0 L0 [] h P') (kk : ∀ r h', P' r h' → SW G y (d + 1) bc bs (pc + 3) L (r.toList ++ st) h' P) (q1 : a1.category = 1 := by rfl) (q2 : a2.category = 1 := by rfl) (q3 : a3.category = 1 := by rfl) (q4 : a4.category = 1 := by rfl) (q5 : a5.category = 1 := by rfl) (hrm : (st.map fun v => v.category).sum ≤ 8 := by exact Nat.le_of_ble_eq_true rfl) (hL0 : L0 = .ref b :: a1 :: a2 :: a3 :: a4 :: a5 :: List.replicate (y'.2.2.1 - 6) (.retAddr 0) := by rfl) : SW G y (d + 1) bc bs pc L (a5 :: a4 :: a3 :: a2 :: a1 :: .ref b :: st) h P :=
  sw_callV (bc := bc) (bs := bs) (bc' := 0) (bs' := 0) [a1, a2, a3, a4, a5] hd hc.1 hc.2.1 hc.2.2.1 hc.2.2.2.1 hc.2.2.2.2.1 hc.2.2.2.2.2.1 rfl hc.2.2.2.2.2.2 (fun v hv => by simp only [List.mem_cons, List.not_mem_nil, or_false] at hv; rcases hv with rfl | rfl | rfl | rfl | rfl <;> assumption) rfl hrm hr hL0 hM kk
end GVROWS
