
section ROWS5
variable {G : SG} {y : MI} {d bc bs pc : Nat} {L st : List Value} {h : AH} {P : Option Value → AH → Prop}
theorem sw_catS {s : State} (hE : sg_E G s) (st : List Value) : ((st.map (sg_tr G)).map fun v => v.category).sum = (st.map fun v => v.category).sum := by
  rw [List.map_map, show ((fun v : Value => v.category) ∘ sg_tr G) = (fun v => v.category) from funext fun v => sg_catT hE.fc v]
theorem sw_objInit {ix a : Nat} (hd : decode y.2.1 pc = .ok (.invokespecial ix, 3)) (hw : Cond.methodLink y.1.cls ix Lib.objectInit ∈ wtab) (hi : Cond.instanceMethod Lib.objectInit ∈ wtab) (hc : Cond.code Lib.objectInit ⟨#[0xb1]⟩ 1 none ∈ wtab) (hrm : (st.map fun v => v.category).sum ≤ 8) (k : SW G y (d + 1) bc bs (pc + 3) L st h P) : SW G y (d + 1) bc bs pc L (.ref a :: st) h P := by
  intro p l e R s m args below meth c H locs ls cells slots mc ms C h1 h2 h3 h4 hI hS hL
  have hlo := C.lo
  have hfr := C.fr
  exact W.objInit C.x C.b C.own (C.ts _ hw) (C.ts _ hi) (C.ts _ hc) (g := F0 m pc ls ((.ref a :: st).map (sg_tr G))) rfl (by rw [C.ml]; exact hL.1) (a := sg_ad G a) (rest := st.map (sg_tr G)) rfl hd (by omega) (by show 2 * 0 + _ + 12 ≤ _; rw [sw_catS C.E]; omega) (k p l e R s m args below meth c H locs ls cells slots mc ms C h1 h2 h3 h4 hI hS hL)
/-- the class ci may be made by the pool's place ix of own; what its fields hold at first -/
def nw_ok (own : String) (ix ci : Nat) (fs : List Value) : Prop := ∃ (C : String) (T : u_T) (N : Nat) (ty : Nat → FieldType), vwCl[ci]? = some (C, T, N) ∧ Cond.classLink own ix C ∈ wtab ∧ Cond.instantiable C N ∈ wtab ∧ Cond.initialized C ∈ wtab ∧ (∀ w ∈ u_ws C T N, w ∈ wtab) ∧ (∀ k, k < N → parseFieldDescriptor (T k).2.2.1 = some (ty k)) ∧ (∀ j, j < N → defaultValue (ty j) = vp_V fs j) ∧ fs.length = N
theorem sw_new {ix ci : Nat} {fs : List Value} (hd : decode y.2.1 pc = .ok (.new ix, 3)) (hw : nw_ok y.1.cls ix ci fs) (hfs : fs.map (sg_tr G) = fs) (hal : sg_al G = true) (hl : h.length < 1000) (k : SW G y d bc bs (pc + 3) L (.ref h.length :: st) (h ++ [.inr (ci, fs)]) P) : SW G y d (bc + 1) (bs + fs.length) pc L st h P := by
  intro p l e R s m args below meth c H locs ls cells slots mc ms C h1 h2 h3 h4 hI hS hL
  obtain ⟨C0, T, N, ty, hc, hcl, hins, hini, hin, hty, hdf, hfl⟩ := hw
  have hKn := C.E.K.1 ci _ hc
  refine W.newcK C.x C.b C.own (C.ts _ hcl) (C.ts _ hins) (C.ts _ hini) rfl hd (by omega) (by omega) hKn.2.1 rfl fun H1 kC hkC e1 z1 o1 => ?_
  have hat : va_at (sg_D G) vwCl (H.size, sg_te G (.inr (ci, fs))) H1 := by
    refine ⟨_, hc, (u_born ty C.ts hin hKn hkC e1 hty).to (fun j hj => ?_)⟩
    rw [hfs]
    exact hdf j hj
  obtain ⟨hI1, hsz⟩ := hI.push hal hl hat z1 o1
  have k1 := k p l e R s m args below meth c H1 locs ls (cells + 1) (slots + N) mc ms C (by omega) (by omega) h3 h4 hI1 ⟨Nat.le_trans hS.1 (by omega), fun x g1 g2 => (o1 x (Nat.lt_of_lt_of_le g1 hS.1)).trans (hS.2.1 x g1 g2), hS.2.2⟩ hL
  rw [hsz]
  exact k1
theorem sw_newai {n : Int32} {N : Nat} (hd : decode y.2.1 pc = .ok (.newarray .int, 2)) (hw : Cond.arrayClass .int ∈ wtab) (hn : ¬ n < 0) (hN : n.toNatClampNeg = N) (hb : N ≤ 1000) (hal : sg_al G = true) (hl : h.length < 1000) (k : SW G y d bc bs (pc + 2) L (.ref h.length :: st) (h ++ [.inl (0, N, .inl (fun _ => 0))]) P) : SW G y d (bc + 1) (bs + N) pc L (.int n :: st) h P := by
  intro p l e R s m args below meth c H locs ls cells slots mc ms C h1 h2 h3 h4 hI hS hL
  refine va_newaK C.x C.b (atype := .int) (C.ts _ hw) rfl hd rfl hn hN (by show N * componentBytes .int ≤ _; simp [componentBytes]; omega) (by omega) (by omega) rfl fun H1 cA e1 z1 o1 hAr hNm => ?_
  have hcA : cA = sg_t G 0 := by
    have g := (C.E.K.2 0 _ rfl).2
    exact Option.some.inj (hNm.symm.trans g)
  subst hcA
  have hat : va_at (sg_D G) vwCl (H.size, sg_te G (.inl (0, N, .inl (fun _ => 0)))) H1 := by
    show H1[H.size]? = some (vp_cell _ _)
    rw [vp_cell_i]
    exact e1
  obtain ⟨hI1, hsz⟩ := hI.push hal hl hat z1 o1
  have k1 := k p l e R s m args below meth c H1 locs ls (cells + 1) (slots + N) mc ms C (by omega) (by omega) h3 h4 hI1 ⟨Nat.le_trans hS.1 (by omega), fun x g1 g2 => (o1 x (Nat.lt_of_lt_of_le g1 hS.1)).trans (hS.2.1 x g1 g2), hS.2.2⟩ hL
  rw [hsz]
  exact k1
theorem sw_newaz {n : Int32} {N : Nat} (hd : decode y.2.1 pc = .ok (.newarray .boolean, 2)) (hw : Cond.arrayClass .boolean ∈ wtab) (hn : ¬ n < 0) (hN : n.toNatClampNeg = N) (hb : N ≤ 1000) (hal : sg_al G = true) (hl : h.length < 1000) (k : SW G y d bc bs (pc + 2) L (.ref h.length :: st) (h ++ [.inl (1, N, .inl (fun _ => 0))]) P) : SW G y d (bc + 1) (bs + N) pc L (.int n :: st) h P := by
  intro p l e R s m args below meth c H locs ls cells slots mc ms C h1 h2 h3 h4 hI hS hL
  refine va_newaK C.x C.b (atype := .boolean) (C.ts _ hw) rfl hd rfl hn hN (by show N * componentBytes .boolean ≤ _; simp [componentBytes]; omega) (by omega) (by omega) rfl fun H1 cA e1 z1 o1 hAr hNm => ?_
  have hcA : cA = sg_t G 1 := by
    have g := (C.E.K.2 1 _ rfl).2
    exact Option.some.inj (hNm.symm.trans g)
  subst hcA
  have hat : va_at (sg_D G) vwCl (H.size, sg_te G (.inl (1, N, .inl (fun _ => 0)))) H1 := by
    show H1[H.size]? = some (vp_cell _ _)
    rw [vp_cell_i]
    exact e1
  obtain ⟨hI1, hsz⟩ := hI.push hal hl hat z1 o1
  have k1 := k p l e R s m args below meth c H1 locs ls (cells + 1) (slots + N) mc ms C (by omega) (by omega) h3 h4 hI1 ⟨Nat.le_trans hS.1 (by omega), fun x g1 g2 => (o1 x (Nat.lt_of_lt_of_le g1 hS.1)).trans (hS.2.1 x g1 g2), hS.2.2⟩ hL
  rw [hsz]
  exact k1
theorem sw_newal {n : Int32} {N : Nat} (hd : decode y.2.1 pc = .ok (.newarray .long, 2)) (hw : Cond.arrayClass .long ∈ wtab) (hn : ¬ n < 0) (hN : n.toNatClampNeg = N) (hb : N ≤ 1000) (hal : sg_al G = true) (hl : h.length < 1000) (k : SW G y d bc bs (pc + 2) L (.ref h.length :: st) (h ++ [.inl (2, N, .inr (.inl (fun _ => 0)))]) P) : SW G y d (bc + 1) (bs + N) pc L (.int n :: st) h P := by
  intro p l e R s m args below meth c H locs ls cells slots mc ms C h1 h2 h3 h4 hI hS hL
  refine va_newaK C.x C.b (atype := .long) (C.ts _ hw) rfl hd rfl hn hN (by show N * componentBytes .long ≤ _; simp [componentBytes]; omega) (by omega) (by omega) rfl fun H1 cA e1 z1 o1 hAr hNm => ?_
  have hcA : cA = sg_t G 2 := by
    have g := (C.E.K.2 2 _ rfl).2
    exact Option.some.inj (hNm.symm.trans g)
  subst hcA
  have hat : va_at (sg_D G) vwCl (H.size, sg_te G (.inl (2, N, .inr (.inl (fun _ => 0))))) H1 := by
    show H1[H.size]? = some (vp_cell _ _)
    rw [vp_cell_l]
    exact e1
  obtain ⟨hI1, hsz⟩ := hI.push hal hl hat z1 o1
  have k1 := k p l e R s m args below meth c H1 locs ls (cells + 1) (slots + N) mc ms C (by omega) (by omega) h3 h4 hI1 ⟨Nat.le_trans hS.1 (by omega), fun x g1 g2 => (o1 x (Nat.lt_of_lt_of_le g1 hS.1)).trans (hS.2.1 x g1 g2), hS.2.2⟩ hL
  rw [hsz]
  exact k1
theorem sw_anew {ix : Nat} {n : Int32} {N : Nat} (hd : decode y.2.1 pc = .ok (.anewarray ix, 3)) (hw : Cond.classLink y.1.cls ix RX1 ∈ wtab) (hn : ¬ n < 0) (hN : n.toNatClampNeg = N) (hb : N ≤ 1000) (hal : sg_al G = true) (hl : h.length < 1000) (k : SW G y d bc bs (pc + 3) L (.ref h.length :: st) (h ++ [.inl (3, N, .inr (.inr (fun _ => none)))]) P) : SW G y d (bc + 1) (bs + N) pc L (.int n :: st) h P := by
  intro p l e R s m args below meth c H locs ls cells slots mc ms C h1 h2 h3 h4 hI hS hL
  subst hN
  refine W.anew (R := R) (cells := cells) (slots := slots) C.x C.b C.own (C.ts _ hw) (va_AO.use C.E.ao) (g := F0 m pc ls ((.int n :: st).map (sg_tr G))) rfl hd (n := n) (rest := st.map (sg_tr G)) rfl hn (by omega) (by omega) (by omega) fun cA kA comp f1 f2 f3 f4 => ?_
  generalize hH1 : H.push ({ cls := cA, slots := Array.replicate n.toNatClampNeg .null, vm := .none } : Cell) = H1
  have z1 : H1.size = H.size + 1 := by rw [← hH1, Array.size_push]
  have e1 : H1[H.size]? = some (arrV cA n.toNatClampNeg (fun _ => .null)) := by rw [← hH1, Array.getElem?_push_size, ← arrV_new]
  have o1 : ∀ q : Nat, q < H.size → H1[q]? = H[q]? := fun q hq => by rw [← hH1, Array.getElem?_push, if_neg (Nat.ne_of_lt hq)]
  have hcA : cA = sg_t G 3 := by
    obtain ⟨_, _, _, _, _, g⟩ := (C.E.K.2 3 _ rfl).2
    exact Option.some.inj (f1.symm.trans g)
  subst hcA
  have hat : va_at (sg_D G) vwCl (H.size, sg_te G (.inl (3, n.toNatClampNeg, .inr (.inr (fun _ => none))))) H1 := by
    show H1[H.size]? = some (vp_cell _ _)
    rw [vp_cell_q]
    exact e1
  obtain ⟨hI1, hsz⟩ := hI.push hal hl hat z1 o1
  have k1 := k p l e R s m args below meth c H1 locs ls (cells + 1) (slots + n.toNatClampNeg) mc ms C (by omega) (by omega) h3 h4 hI1 ⟨Nat.le_trans hS.1 (by omega), fun x g1 g2 => (o1 x (Nat.lt_of_lt_of_le g1 hS.1)).trans (hS.2.1 x g1 g2), hS.2.2⟩ hL
  show W p l e R s m args below meth c H1 locs (cells + 1) (slots + n.toNatClampNeg) _ (F0 m (pc + 3) ls (.ref H.size :: st.map (sg_tr G)))
  rw [hsz]
  exact k1
theorem sw_aast {a b n : Nat} {fs : List Value} {f : Nat → Option Nat} {i : Int32} (hd : decode y.2.1 pc = .ok (.aastore, 1)) (hk : h[a]? = some (.inl (3, n, .inr (.inr f)))) (hv : h[b]? = some (.inr (0, fs))) (hin : vp_in i n)
    (k : SW G y d bc bs (pc + 1) L st (h.set a (.inl (3, n, .inr (.inr (va_up f i.toNatClampNeg (some b)))))) P) : SW G y d bc bs pc L (.ref b :: .int i :: .ref a :: st) h P := by
  intro p l e R s m args below meth c H locs ls cells slots mc ms C h1 h2 h3 h4 hI hS hL
  have he : (sg_en G h)[a]? = some (sg_ad G a, .inl (sg_t G 3, n, .inr (.inr (.inr (.inr (fun i => (f i).map (sg_ad G))))))) := hI.at hk
  have hlt : i.toNatClampNeg < n := Nat.not_le.mp fun q => hin (Or.inr q)
  have h0 : ¬ i < 0 := fun q => hin (Or.inl q)
  obtain ⟨r', hr', cellV, g1, g2, g3, -⟩ := hI.1 b _ (hI.at hv)
  have hcls := (C.E.K.1 0 (RX1, TX1, 4) rfl).2
  obtain ⟨kA, comp, k1, k2, k3, -⟩ := (C.E.K.2 3 _ rfl).2
  have hcomp : comp = (sg_D G).1 0 := Option.some.inj (k3.symm.trans hcls.1)
  subst hcomp
  obtain ⟨kC, hkC, -⟩ := hcls.2
  refine W.aast C.x C.b (hI.1 a _ he) (fun q z => by cases z) (fun z => by cases z) k1 k2 rfl hkC ⟨h0, by show _ < (arrV _ _ _).slots.size; rw [arrV_size]; exact hlt⟩ g1 (fun q z => by rw [g3] at z; cases z) (by rw [g2]; exact hkC) (by rw [g2]; exact va_assign hcls) rfl rfl hd fun H1 e1 e2 e3 => ?_
  have hat : va_at (sg_D G) vwCl (sg_ad G a, sg_te G (.inl (3, n, .inr (.inr (va_up f i.toNatClampNeg (some b)))))) H1 := by
    show H1[sg_ad G a]? = some (vp_cell _ _)
    rw [e1, vp_cell_q, vp_cell_q, arrV_store]
    congr 2
    funext q
    by_cases hq : q = i.toNatClampNeg
    · subst hq; simp [updV, va_up, va_rf]
    · simp [updV, va_up, hq]
  exact k p l e R s m args below meth c H1 _ ls cells slots mc ms C h1 h2 h3 h4 (hI.put hk hat e2 e3) (hS.put e2 e3 (sg_Aad (hI.lt hk))) hL
/-- System.arraycopy of two rows of ints from their beginnings -/
theorem sw_copyi {ix a b n0 n1 : Nat} {f g : Nat → Int32} {n : Int32} (hd : decode y.2.1 pc = .ok (.invokestatic ix, 3)) (hw : Cond.methodLink y.1.cls ix arraycopyName ∈ wtab) (hnat : Cond.native arraycopyName ∈ wtab) (hstat : Cond.static arraycopyName ∈ wtab) (hini : Cond.initialized "java/lang/System" ∈ wtab) (hal : sg_al G = false) (ha : h[a]? = some (.inl (0, n0, .inl f))) (hb : h[b]? = some (.inl (0, n1, .inl g))) (hn : ¬ n < 0) (hf : n.toNatClampNeg ≤ n0) (hg : n.toNatClampNeg ≤ n1) (hrm : (st.map fun v => v.category).sum ≤ 8)
    (kk : ∀ h' : AH, h'.length = h.length → h'[b]? = some (.inl (0, n1, .inl (fun k => if k < n.toNatClampNeg then f k else g k))) → (∀ j, j ≠ b → h'[j]? = h[j]?) → SW G y (d + 1) bc bs (pc + 3) L st h' P) : SW G y (d + 1) bc bs pc L (.int n :: .int 0 :: .ref b :: .int 0 :: .ref a :: st) h P := by
  intro p l e R s m args below meth c H locs ls cells slots mc ms C h1 h2 h3 h4 hI hS hL
  have hlo := C.lo
  have hfr := C.fr
  have hnf : nativeFrameWords "java/lang/System" "arraycopy" 5 ≤ 18 := by decide +kernel
  have z0 : (0 : Int32).toNatClampNeg = 0 := rfl
  refine va_copyi C.x C.b (by rw [C.ml]; exact hL.1.symm) C.own (C.ts _ hw) (C.ts _ hnat) (C.ts _ hstat) (C.ts _ hini) C.E.K hI.1 (sg_Dn G h) hS a b 0 0 (hI.at ha) (hI.at hb) rfl rfl (ty := .int) rfl (by decide) (by decide) hn (by rw [z0]; omega) (by rw [z0]; omega) (fun _ _ => rfl) (by omega) (by rw [sw_catS C.E]; omega) hd fun H1 locs1 hP1 hD1 hS1 => ?_
  have ee : va_cpy f g (0 : Int32).toNatClampNeg (0 : Int32).toNatClampNeg n.toNatClampNeg = (fun k => if k < n.toNatClampNeg then f k else g k) := by
    funext k
    simp [va_cpy, z0]
  rw [ee] at hP1
  have hI1 : sg_I G (h.set b (.inl (0, n1, .inl (fun k => if k < n.toNatClampNeg then f k else g k)))) H1 := by
    have hP2 : va_P (sg_D G) vwCl (sg_en G (h.set b (.inl (0, n1, .inl (fun k => if k < n.toNatClampNeg then f k else g k))))) H1 := by
      rw [sg_en_set, ← sg_ad_lt (hI.lt hb)]
      exact hP1
    refine ⟨hP2, by rw [List.length_set]; exact hI.2.1, ?_, fun q => by rw [hal] at q; cases q⟩
    have hne : 0 < h.length := Nat.lt_of_le_of_lt (Nat.zero_le _) (List.getElem?_eq_some_iff.mp hb).1
    rw [List.length_set]
    cases hlast : (h.set b (.inl (0, n1, .inl (fun k => if k < n.toNatClampNeg then f k else g k))))[h.length - 1]? with
    | none =>
      have := List.getElem?_eq_none_iff.mp hlast
      rw [List.length_set] at this
      omega
    | some e9 =>
      have g9 : sg_o G + (h.length - 1) < H1.size := (hP2 (h.length - 1) _ (sg_en_at hlast)).lt
      omega
  exact kk _ (List.length_set ..) (sg_set_self hb) (fun j hj => sg_set_ne hj) p l e R s m args below meth c H1 locs1 ls cells slots mc ms C h1 h2 h3 h4 hI1 hS1 hL
/-- Float.floatToRawIntBits -/
theorem sw_f2ib {ix : Nat} {b : UInt32} (hd : decode y.2.1 pc = .ok (.invokestatic ix, 3)) (hw : Cond.methodLink y.1.cls ix ⟨"java/lang/Float", "floatToRawIntBits", "(F)I"⟩ ∈ wtab) (hnat : Cond.native ⟨"java/lang/Float", "floatToRawIntBits", "(F)I"⟩ ∈ wtab) (hstat : Cond.static ⟨"java/lang/Float", "floatToRawIntBits", "(F)I"⟩ ∈ wtab) (hini : Cond.initialized "java/lang/Float" ∈ wtab) (hrm : (st.map fun v => v.category).sum ≤ 8) (k : SW G y (d + 1) bc bs (pc + 3) L (.int b.toInt32 :: st) h P) : SW G y (d + 1) bc bs pc L (.float b :: st) h P := by
  intro p l e R s m args below meth c H locs ls cells slots mc ms C h1 h2 h3 h4 hI hS hL
  have hlo := C.lo
  have hfr := C.fr
  exact vn_f2i C.x C.b (by rw [C.ml]; exact hL.1.symm) C.own (C.ts _ hw) (C.ts _ hnat) (C.ts _ hstat) (C.ts _ hini) (by omega) (by rw [sw_catS C.E]; omega) hd (k p l e R s m args below meth c H locs ls cells slots mc ms C h1 h2 h3 h4 hI hS hL)
/-- an inherited method -/
theorem sw_callU {ix n b bc' bs' : Nat} {y' : MI} {x0 : MethodName} {C0 : String} (as : List Value) {L0 : List Value} {st0 : List Value} {P' : Option Value → AH → Prop} (hd : decode y.2.1 pc = .ok (.invokevirtual ix, 3)) (hy : mi_ok y') (hw : Cond.methodLink y.1.cls ix x0 ∈ wtab) (hsm : Cond.sameMethod x0.cls y'.1.cls x0.name x0.desc ∈ wtab) (hse : Cond.selects C0 x0 y'.1 ∈ wtab) (hi : Cond.instanceMethod y'.1 ∈ wtab) (hyx : y'.1 = ⟨y'.1.cls, x0.name, x0.desc⟩) (hp : (parseMethodDescriptor x0.desc).map (fun d => d.parameters.length) = some n) (hn : as.length = n) (hle : as.length + 1 ≤ y'.2.2.1) (has : ∀ v ∈ as, v.category = 1) (hst : st0 = as.reverse ++ .ref b :: st) (hrm : (st.map fun v => v.category).sum ≤ 8) (hr : rc_ok h C0 b)
    (hL0 : L0 = (.ref b :: as) ++ List.replicate (y'.2.2.1 - (as.length + 1)) (.retAddr 0)) (hM : SW G y' d bc' bs' 0 L0 [] h P') (kk : ∀ r h', P' r h' → SW G y (d + 1) bc bs (pc + 3) L (r.toList ++ st) h' P) : SW G y (d + 1) (bc + bc') (bs + bs') pc L st0 h P := by
  intro p l e R s m args below meth c H locs ls cells slots mc ms C h1 h2 h3 h4 hI hS hL
  subst hst
  have hlo := C.lo
  have hfr := C.fr
  have hml := hy.2.2.2.2
  have hT : GoodIn wtab (va_wsU y.1.cls ix C0 y'.1.cls x0 y'.1 (Cond.code y'.1 y'.2.1 y'.2.2.1 y'.2.2.2 :: wtab)) := by
    intro w hw9
    rcases List.mem_append.mp hw9 with g | g
    · have : w ∈ wtab := by
        simp only [List.mem_cons, List.not_mem_nil, or_false] at g
        rcases g with rfl | rfl | rfl | rfl | rfl
        · exact hw
        · exact hsm
        · exact hse
        · exact hi
        · exact hy.2.2.1
      exact ⟨this, good_of_word (wtab_good this)⟩
    · exact mi_good hy w g
  have cw := va_cwU (R := R) (rm := ({ frames := d, cells := bc', slots := bs', locals := 37 * d } : Room)) n C.ts hT rfl rfl rfl hyx ⟨hy.2.2.2.1.1, hy.2.2.2.1.2, hp⟩ ⟨hfr, by show 8 + (y'.2.2.1 + 11) + 37 * d ≤ _; omega⟩
  have has' : ∀ v ∈ (.ref b :: as : List Value), v.category = 1 := fun v hv => by
    rcases List.mem_cons.mp hv with rfl | hv
    · rfl
    · exact has v hv
  refine sw_fin (st := st) (va_runU (b := sg_ad G b) (As := as.map (sg_tr G)) (rest := st.map (sg_tr G)) ⟨C.x, C.b, C.ml, C.own, C.ts⟩ (sw_met C.nt hy has' hle hL0 hM) cw ⟨sw_blind, rc_cell C.E hI hS hr, fun U hU hW => ⟨rfl, sw_preE C.E hS hU hW, by rw [hU]; exact hI⟩⟩ rfl (by rw [List.length_map]; exact hn) hL.1 (by rw [List.map_append, List.map_reverse]; rfl) (lv_room (by rw [sw_catS C.E]; exact hrm)) hd ⟨by omega, by omega⟩) hS (fun r h' H1 locs1 hp' hI1 hS1 => ?_)
  exact kk r h' hp' p l e R s m args below meth c H1 locs1 ls _ _ mc ms C (by omega) (by omega) h3 h4 hI1 hS1 hL
end ROWS5
