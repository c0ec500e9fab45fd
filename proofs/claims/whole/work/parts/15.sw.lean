
theorem sg_I.put {G : SG} {h : AH} {H H1 : Heap} {a : Nat} {e0 e : AE} (hI : sg_I G h H) (hk : h[a]? = some e0) (he : va_at (sg_D G) vwCl (sg_ad G a, sg_te G e) H1) (hz : H1.size = H.size) (oq : ∀ q : Nat, q ≠ sg_ad G a → H1[q]? = H[q]?) : sg_I G (h.set a e) H1 := by
  refine ⟨?_, by rw [List.length_set]; exact hI.2.1, by rw [List.length_set, hz]; exact hI.2.2.1, fun q => by rw [List.length_set, hz]; exact hI.2.2.2 q⟩
  rw [sg_en_set, ← sg_ad_lt (hI.lt hk)]
  exact va_P.set hI.1 (sg_Dn G h) (hI.at hk) he oq
theorem sg_Aad {G : SG} {a : Nat} (h : a < 1000) : sg_A G (sg_ad G a) := by
  rw [sg_ad_lt h]; exact Nat.le_add_right _ _
theorem sg_I.push {G : SG} {h : AH} {H H1 : Heap} {e : AE} (hI : sg_I G h H) (hal : sg_al G = true) (hl : h.length < 1000) (he : va_at (sg_D G) vwCl (H.size, sg_te G e) H1) (hz : H1.size = H.size + 1) (oq : ∀ q : Nat, q < H.size → H1[q]? = H[q]?) : sg_I G (h ++ [e]) H1 ∧ H.size = sg_ad G h.length := by
  have hs := hI.2.2.2 hal
  refine ⟨⟨?_, by simp; omega, by simp; omega, fun _ => by simp; omega⟩, by rw [sg_ad_lt hl, hs]⟩
  rw [sg_en_push, ← hs]
  refine (hI.1.kept (fun k q hk => oq _ ((hI.1 k q hk).lt))).app (fun k q hk => ?_)
  have hk1 : k < 1 := (List.getElem?_eq_some_iff.mp hk).1
  rw [show k = 0 by omega] at hk
  cases hk
  exact he
theorem sg_set_self {h : AH} {a : Nat} {e0 e : AE} (hk : h[a]? = some e0) : (h.set a e)[a]? = some e := List.getElem?_set_self (List.getElem?_eq_some_iff.mp hk).1
theorem sg_set_ne {h : AH} {a j : Nat} {e : AE} (hj : j ≠ a) : (h.set a e)[j]? = h[j]? := List.getElem?_set_ne (Ne.symm hj)
/-- field kf of the class ci, by the pool's place ix of own -/
def fl_ok (own : String) (ix ci kf : Nat) (ty : FieldType) (fin : Bool) : Prop := ∃ (C : String) (T : u_T) (N : Nat) (ty0 : Nat → FieldType), vwCl[ci]? = some (C, T, N) ∧ kf < N ∧ Cond.fieldLink own ix (T kf).1 (T kf).2.1 (T kf).2.2.1 ∈ wtab ∧ (∀ w ∈ u_ws C T N, w ∈ wtab) ∧ (∀ k, k < N → parseFieldDescriptor (T k).2.2.1 = some (ty0 k)) ∧ (∀ a, a < N → ∀ b, b < N → a ≠ b → (T a).2.1 ≠ (T b).2.1) ∧ ty0 kf = ty ∧ (T kf).2.2.2 = fin ∧ (T kf).1 = C
section ROWS3
variable {G : SG} {y : MI} {d bc bs pc : Nat} {L st : List Value} {h : AH} {P : Option Value → AH → Prop}
theorem sw_getf {ix ci kf a : Nat} {ty : FieldType} {fin : Bool} {fs : List Value} {v : Value} (hd : decode y.2.1 pc = .ok (.getfield ix, 3)) (hf : fl_ok y.1.cls ix ci kf ty fin) (hk : h[a]? = some (.inr (ci, fs))) (hv : fs[kf]? = some v) (k : SW G y d bc bs (pc + 3) L (v :: st) h P) : SW G y d bc bs pc L (.ref a :: st) h P := by
  intro p l e R s m args below meth c H locs ls cells slots mc ms C h1 h2 h3 h4 hI hS hL
  obtain ⟨C0, T, N, ty0, hc, hkN, hw, hin, hty, hnm, -, -, -⟩ := hf
  have he : (sg_en G h)[a]? = some (sg_ad G a, .inr (ci, fs.map (sg_tr G))) := hI.at hk
  exact va_get C.x C.b C.ts hin C.own C.E.K hI.1 a he hc kf hkN (C.ts _ hw) (fun _ q => q) (v := sg_tr G v) (by rw [List.getElem?_map, hv]; rfl) hd (k p l e R s m args below meth c H locs ls cells slots mc ms C h1 h2 h3 h4 hI hS hL)
theorem sw_put0 {ix ci kf a : Nat} {ty : FieldType} {fs : List Value} {v : Value} (hd : decode y.2.1 pc = .ok (.putfield ix, 3)) (hf : fl_ok y.1.cls ix ci kf ty false) (hk : h[a]? = some (.inr (ci, fs))) (hl : kf < fs.length) (hn : narrow ty (sg_tr G v) = sg_tr G v) (hft : fits ty (sg_tr G v) = true)
    (kk : ∀ h' : AH, h'.length = h.length → h'[a]? = some (.inr (ci, fs.set kf v)) → (∀ j, j ≠ a → h'[j]? = h[j]?) → SW G y d bc bs (pc + 3) L st h' P) : SW G y d bc bs pc L (v :: .ref a :: st) h P := by
  intro p l e R s m args below meth c H locs ls cells slots mc ms C h1 h2 h3 h4 hI hS hL
  obtain ⟨C0, T, N, ty0, hc, hkN, hw, hin, hty, hnm, hty1, hfin, hdec⟩ := hf
  have he : (sg_en G h)[a]? = some (sg_ad G a, .inr (ci, fs.map (sg_tr G))) := hI.at hk
  have hap := va_apart (own := y.1.cls) C.ts hin ty0 hty hnm C.E.K hc
  obtain ⟨r, g1, cell, q1, q2, q3, q4⟩ := hI.1 a _ he
  have hr : r = (C0, T, N) := Option.some.inj (g1.symm.trans hc)
  subst hr
  obtain ⟨hS0, hfc, kC, hkC, hkind⟩ := C.E.K.1 ci _ hc
  obtain ⟨cf, kf', fi, f, hi, hsl⟩ := hS0 kf hkN
  have hlay := C.ts _ (hin _ (u_in_lay hkN))
  unfold u_lay at hlay
  rw [if_neg (by rw [hfin]; decide)] at hlay
  have hst := (u_facts hfc hkC (u_lays C.ts hin hkN) hi).1
  have h6 := u_store hfc hkC hkind hlay hi ((hty kf hkN).trans (congrArg some hty1)) hn hft
  refine W.putK C.x C.b (f := f) ⟨C.own, C.ts _ hw, ⟨_, _, _, hi⟩, hst⟩ (by rw [q2]; exact h6) q1 q3 (by rw [hsl]; exact k2_hasslot (q4 kf hkN)) rfl rfl hd fun H' e1 e2 e3 => ?_
  rw [hsl] at e1
  have hat : va_at (sg_D G) vwCl (sg_ad G a, sg_te G (.inr (ci, fs.set kf v))) H' := by
    refine ⟨_, hc, t_OB.to (V := updV (vp_V (fs.map (sg_tr G))) kf (sg_tr G v)) ⟨_, e1, q2, q3, t_set q4 hap hkN _⟩ (fun j _ => ?_)⟩
    rw [vp_updV_set (by rw [List.length_map]; exact hl), List.map_set]
  exact kk _ (List.length_set ..) (sg_set_self hk) (fun j hj => sg_set_ne hj) p l e R s m args below meth c H' _ ls cells slots mc ms C h1 h2 h3 h4 (hI.put hk hat e2 e3) (hS.put e2 e3 (sg_Aad (hI.lt hk))) hL
theorem sw_puti {ix ci kf a : Nat} {fs : List Value} {x : Int32} (hd : decode y.2.1 pc = .ok (.putfield ix, 3)) (hf : fl_ok y.1.cls ix ci kf .int false) (hk : h[a]? = some (.inr (ci, fs))) (hl : kf < fs.length)
    (kk : ∀ h' : AH, h'.length = h.length → h'[a]? = some (.inr (ci, fs.set kf (.int x))) → (∀ j, j ≠ a → h'[j]? = h[j]?) → SW G y d bc bs (pc + 3) L st h' P) : SW G y d bc bs pc L (.int x :: .ref a :: st) h P := sw_put0 hd hf hk hl rfl rfl kk
theorem sw_putz {ix ci kf a : Nat} {fs : List Value} {x : Int32} (hd : decode y.2.1 pc = .ok (.putfield ix, 3)) (hf : fl_ok y.1.cls ix ci kf .boolean false) (hx : x = 0 ∨ x = 1) (hk : h[a]? = some (.inr (ci, fs))) (hl : kf < fs.length)
    (kk : ∀ h' : AH, h'.length = h.length → h'[a]? = some (.inr (ci, fs.set kf (.int x))) → (∀ j, j ≠ a → h'[j]? = h[j]?) → SW G y d bc bs (pc + 3) L st h' P) : SW G y d bc bs pc L (.int x :: .ref a :: st) h P :=
  sw_put0 hd hf hk hl (by rcases hx with rfl | rfl <;> rfl) (by rcases hx with rfl | rfl <;> rfl) kk
theorem sw_puta {ix ci kf a b : Nat} {nm : String} {fs : List Value} (hd : decode y.2.1 pc = .ok (.putfield ix, 3)) (hf : fl_ok y.1.cls ix ci kf (.object nm) false) (hk : h[a]? = some (.inr (ci, fs))) (hl : kf < fs.length)
    (kk : ∀ h' : AH, h'.length = h.length → h'[a]? = some (.inr (ci, fs.set kf (.ref b))) → (∀ j, j ≠ a → h'[j]? = h[j]?) → SW G y d bc bs (pc + 3) L st h' P) : SW G y d bc bs pc L (.ref b :: .ref a :: st) h P := sw_put0 hd hf hk hl rfl rfl kk
/-- a final field, in a constructor -/
theorem sw_putF {ix ci kf a : Nat} {ty : FieldType} {fs : List Value} {v : Value} (hd : decode y.2.1 pc = .ok (.putfield ix, 3)) (hf : fl_ok y.1.cls ix ci kf ty true) (hin2 : y.1.name = "<init>") (hown : ∀ r : vw_C, vwCl[ci]? = some r → r.1 = y.1.cls) (hk : h[a]? = some (.inr (ci, fs))) (hl : kf < fs.length) (hn : narrow ty (sg_tr G v) = sg_tr G v) (hft : fits ty (sg_tr G v) = true)
    (k : SW G y d bc bs (pc + 3) L st (h.set a (.inr (ci, fs.set kf v))) P) : SW G y d bc bs pc L (v :: .ref a :: st) h P := by
  intro p l e R s m args below meth c H locs ls cells slots mc ms C h1 h2 h3 h4 hI hS hL
  obtain ⟨C0, T, N, ty0, hc, hkN, hw, hin, hty, hnm, hty1, hfin, hdec⟩ := hf
  have he : (sg_en G h)[a]? = some (sg_ad G a, .inr (ci, fs.map (sg_tr G))) := hI.at hk
  have hap := va_apart (own := y.1.cls) C.ts hin ty0 hty hnm C.E.K hc
  obtain ⟨r, g1, cell, q1, q2, q3, q4⟩ := hI.1 a _ he
  have hr : r = (C0, T, N) := Option.some.inj (g1.symm.trans hc)
  subst hr
  obtain ⟨hS0, hfc, kC, hkC, hkind⟩ := C.E.K.1 ci _ hc
  obtain ⟨cf, kf', fi, f, hi, hsl⟩ := hS0 kf hkN
  have hlay := C.ts _ (hin _ (u_in_lay hkN))
  unfold u_lay at hlay
  rw [if_pos hfin] at hlay
  have hst := (u_facts hfc hkC (u_lays C.ts hin hkN) hi).1
  have hcf : m.cls = cf := by
    obtain ⟨_, _, c', _, _, _, -, -, hf', -, -, -, hown2, -⟩ := Cond.laysFinal_spec hlay
    have e1 : c' = cf := by have := hi.symm.trans hf'; simp at this; exact this.1.symm
    rw [hdec, show C0 = y.1.cls from hown _ hc] at hown2
    rw [← e1]; exact Option.some.inj (C.own.symm.trans hown2)
  have h6 := u_fits hfc hkC hkind (Or.inr hlay) hi ((hty kf hkN).trans (congrArg some hty1)) hn hft
  refine W.putFinK C.x C.b C.own (C.ts _ hw) hi hst hcf (C.nm.trans hin2) (by rw [q2]; exact h6) q1 q3 (by rw [hsl]; exact k2_hasslot (q4 kf hkN)) rfl rfl hd fun H' e1 e2 e3 => ?_
  rw [hsl] at e1
  have hat : va_at (sg_D G) vwCl (sg_ad G a, sg_te G (.inr (ci, fs.set kf v))) H' := by
    refine ⟨_, hc, t_OB.to (V := updV (vp_V (fs.map (sg_tr G))) kf (sg_tr G v)) ⟨_, e1, q2, q3, t_set q4 hap hkN _⟩ (fun j _ => ?_)⟩
    rw [vp_updV_set (by rw [List.length_map]; exact hl), List.map_set]
  exact k p l e R s m args below meth c H' _ ls cells slots mc ms C h1 h2 h3 h4 (hI.put hk hat e2 e3) (hS.put e2 e3 (sg_Aad (hI.lt hk))) hL
-- arrays
theorem sw_iald {a n : Nat} {f : Nat → Int32} {i v : Int32} (hd : decode y.2.1 pc = .ok (.iaload, 1)) (hk : h[a]? = some (.inl (0, n, .inl f))) (hin : vp_in i n) (hv : f i.toNatClampNeg = v) (k : SW G y d bc bs (pc + 1) L (.int v :: st) h P) : SW G y d bc bs pc L (.int i :: .ref a :: st) h P := by
  intro p l e R s m args below meth c H locs ls cells slots mc ms C h1 h2 h3 h4 hI hS hL
  subst hv
  exact va_iald C.x C.b C.E.K hI.1 a 0 (hI.at hk) rfl hin hd (k p l e R s m args below meth c H locs ls cells slots mc ms C h1 h2 h3 h4 hI hS hL)
theorem sw_zald {a n : Nat} {f : Nat → Int32} {i v : Int32} (hd : decode y.2.1 pc = .ok (.baload, 1)) (hk : h[a]? = some (.inl (1, n, .inl f))) (hin : vp_in i n) (hv : f i.toNatClampNeg = v) (k : SW G y d bc bs (pc + 1) L (.int v :: st) h P) : SW G y d bc bs pc L (.int i :: .ref a :: st) h P := by
  intro p l e R s m args below meth c H locs ls cells slots mc ms C h1 h2 h3 h4 hI hS hL
  subst hv
  exact va_zald C.x C.b C.E.K hI.1 a 1 (hI.at hk) rfl hin hd (k p l e R s m args below meth c H locs ls cells slots mc ms C h1 h2 h3 h4 hI hS hL)
theorem sw_lald {a n : Nat} {f : Nat → Int64} {i : Int32} (hd : decode y.2.1 pc = .ok (.laload, 1)) (hk : h[a]? = some (.inl (2, n, .inr (.inl f)))) (hin : vp_in i n) (k : SW G y d bc bs (pc + 1) L (.long (f i.toNatClampNeg) :: st) h P) : SW G y d bc bs pc L (.int i :: .ref a :: st) h P := by
  intro p l e R s m args below meth c H locs ls cells slots mc ms C h1 h2 h3 h4 hI hS hL
  exact va_lald C.x C.b C.E.K hI.1 a 2 (hI.at hk) rfl hin hd (k p l e R s m args below meth c H locs ls cells slots mc ms C h1 h2 h3 h4 hI hS hL)
theorem sw_aald {a n b : Nat} {f : Nat → Option Nat} {i : Int32} (hd : decode y.2.1 pc = .ok (.aaload, 1)) (hk : h[a]? = some (.inl (3, n, .inr (.inr f)))) (hin : vp_in i n) (hv : f i.toNatClampNeg = some b) (k : SW G y d bc bs (pc + 1) L (.ref b :: st) h P) : SW G y d bc bs pc L (.int i :: .ref a :: st) h P := by
  intro p l e R s m args below meth c H locs ls cells slots mc ms C h1 h2 h3 h4 hI hS hL
  refine va_aldq C.x C.b C.E.K hI.1 a 3 (hI.at hk) rfl hin hd ?_
  show W p l e R s m args below meth c H locs cells slots _ (F0 m (pc + 1) ls (va_rf ((f i.toNatClampNeg).map (sg_ad G)) :: _))
  rw [hv]
  exact (k p l e R s m args below meth c H locs ls cells slots mc ms C h1 h2 h3 h4 hI hS hL)
theorem sw_iast {a n : Nat} {f : Nat → Int32} {i x : Int32} (hd : decode y.2.1 pc = .ok (.iastore, 1)) (hk : h[a]? = some (.inl (0, n, .inl f))) (hin : vp_in i n)
    (kk : ∀ h' : AH, h'.length = h.length → h'[a]? = some (.inl (0, n, .inl (upd f i.toNatClampNeg x))) → (∀ j, j ≠ a → h'[j]? = h[j]?) → SW G y d bc bs (pc + 1) L st h' P) : SW G y d bc bs pc L (.int x :: .int i :: .ref a :: st) h P := by
  intro p l e R s m args below meth c H locs ls cells slots mc ms C h1 h2 h3 h4 hI hS hL
  have he : (sg_en G h)[a]? = some (sg_ad G a, .inl (sg_t G 0, n, .inl f)) := hI.at hk
  refine W.iast C.x C.b (hI.1 a _ he) ((C.E.K.2 0 _ rfl).1 n (fun j => .int (f j))) (fun q => by cases q) (by show ¬ (i < 0 ∨ (arrV _ _ _).slots.size ≤ _); rw [arrV_size]; exact hin) rfl rfl hd fun H' e1 e2 e3 => ?_
  have hat : va_at (sg_D G) vwCl (sg_ad G a, sg_te G (.inl (0, n, .inl (upd f i.toNatClampNeg x)))) H' := by
    show H'[sg_ad G a]? = some (vp_cell _ _)
    rw [e1, vp_cell_i, vp_cell_i, arrV_store]
    congr 2
    funext q
    by_cases hq : q = i.toNatClampNeg
    · subst hq; simp [updV, upd]
    · simp [updV, upd, hq]
  exact kk _ (List.length_set ..) (sg_set_self hk) (fun j hj => sg_set_ne hj) p l e R s m args below meth c H' _ ls cells slots mc ms C h1 h2 h3 h4 (hI.put hk hat e2 e3) (hS.put e2 e3 (sg_Aad (hI.lt hk))) hL
theorem sw_zast {a n : Nat} {f : Nat → Int32} {i x : Int32} (hd : decode y.2.1 pc = .ok (.bastore, 1)) (hk : h[a]? = some (.inl (1, n, .inl f))) (hin : vp_in i n) (hx : x = 0 ∨ x = 1)
    (kk : ∀ h' : AH, h'.length = h.length → h'[a]? = some (.inl (1, n, .inl (upd f i.toNatClampNeg x))) → (∀ j, j ≠ a → h'[j]? = h[j]?) → SW G y d bc bs (pc + 1) L st h' P) : SW G y d bc bs pc L (.int x :: .int i :: .ref a :: st) h P := by
  intro p l e R s m args below meth c H locs ls cells slots mc ms C h1 h2 h3 h4 hI hS hL
  have he : (sg_en G h)[a]? = some (sg_ad G a, .inl (sg_t G 1, n, .inl f)) := hI.at hk
  refine W.zast C.x C.b (hI.1 a _ he) ((C.E.K.2 1 _ rfl).1 n (fun j => .int (f j))) (fun q => by cases q) (by show ¬ (i < 0 ∨ (arrV _ _ _).slots.size ≤ _); rw [arrV_size]; exact hin) rfl rfl hd fun H' e1 e2 e3 => ?_
  have hnx : narrow .boolean (.int x) = .int x := by rcases hx with rfl | rfl <;> rfl
  rw [hnx] at e1
  have hat : va_at (sg_D G) vwCl (sg_ad G a, sg_te G (.inl (1, n, .inl (upd f i.toNatClampNeg x)))) H' := by
    show H'[sg_ad G a]? = some (vp_cell _ _)
    rw [e1, vp_cell_i, vp_cell_i, arrV_store]
    congr 2
    funext q
    by_cases hq : q = i.toNatClampNeg
    · subst hq; simp [updV, upd]
    · simp [updV, upd, hq]
  exact kk _ (List.length_set ..) (sg_set_self hk) (fun j hj => sg_set_ne hj) p l e R s m args below meth c H' _ ls cells slots mc ms C h1 h2 h3 h4 (hI.put hk hat e2 e3) (hS.put e2 e3 (sg_Aad (hI.lt hk))) hL
def updL (f : Nat → Int64) (k : Nat) (x : Int64) : Nat → Int64 := fun j => if j = k then x else f j
theorem sw_last {a n : Nat} {f : Nat → Int64} {i : Int32} {x : Int64} (hd : decode y.2.1 pc = .ok (.lastore, 1)) (hk : h[a]? = some (.inl (2, n, .inr (.inl f)))) (hin : vp_in i n)
    (kk : ∀ h' : AH, h'.length = h.length → h'[a]? = some (.inl (2, n, .inr (.inl (updL f i.toNatClampNeg x)))) → (∀ j, j ≠ a → h'[j]? = h[j]?) → SW G y d bc bs (pc + 1) L st h' P) : SW G y d bc bs pc L (.long x :: .int i :: .ref a :: st) h P := by
  intro p l e R s m args below meth c H locs ls cells slots mc ms C h1 h2 h3 h4 hI hS hL
  have he : (sg_en G h)[a]? = some (sg_ad G a, .inl (sg_t G 2, n, .inr (.inl f))) := hI.at hk
  refine W.last C.x C.b (hI.1 a _ he) ((C.E.K.2 2 _ rfl).1 n (fun j => .long (f j))) (fun q => by cases q) (by show ¬ (i < 0 ∨ (arrV _ _ _).slots.size ≤ _); rw [arrV_size]; exact hin) rfl rfl hd fun H' e1 e2 e3 => ?_
  have hat : va_at (sg_D G) vwCl (sg_ad G a, sg_te G (.inl (2, n, .inr (.inl (updL f i.toNatClampNeg x))))) H' := by
    show H'[sg_ad G a]? = some (vp_cell _ _)
    rw [e1, vp_cell_l, vp_cell_l, arrV_store]
    congr 2
    funext q
    by_cases hq : q = i.toNatClampNeg
    · subst hq; simp [updV, updL]
    · simp [updV, updL, hq]
  exact kk _ (List.length_set ..) (sg_set_self hk) (fun j hj => sg_set_ne hj) p l e R s m args below meth c H' _ ls cells slots mc ms C h1 h2 h3 h4 (hI.put hk hat e2 e3) (hS.put e2 e3 (sg_Aad (hI.lt hk))) hL
theorem sw_alen {a t n : Nat} {x : (Nat → Int32) ⊕ (Nat → Int64) ⊕ (Nat → Option Nat)} {v : Int32} (hd : decode y.2.1 pc = .ok (.arraylength, 1)) (hk : h[a]? = some (.inl (t, n, x))) (ht : t < 4) (hv : Int32.ofNat n = v) (k : SW G y d bc bs (pc + 1) L (.int v :: st) h P) : SW G y d bc bs pc L (.ref a :: st) h P := by
  intro p l e R s m args below meth c H locs ls cells slots mc ms C h1 h2 h3 h4 hI hS hL
  have ht' : ∃ ty, (sg_ty G)[t]? = some (sg_t G t, ty) := by
    rcases (show t = 0 ∨ t = 1 ∨ t = 2 ∨ t = 3 by omega) with rfl | rfl | rfl | rfl <;> exact ⟨_, rfl⟩
  obtain ⟨ty, ht'⟩ := ht'
  rcases x with f | f | f
  · exact va_alen C.x C.b C.E.K hI.1 a t (x := (n, .inl f)) (hI.at hk) ht' hv hd (k p l e R s m args below meth c H locs ls cells slots mc ms C h1 h2 h3 h4 hI hS hL)
  · exact va_alen C.x C.b C.E.K hI.1 a t (x := (n, .inr (.inl f))) (hI.at hk) ht' hv hd (k p l e R s m args below meth c H locs ls cells slots mc ms C h1 h2 h3 h4 hI hS hL)
  · exact va_alen C.x C.b C.E.K hI.1 a t (x := (n, .inr (.inr (.inr (.inr (fun i => (f i).map (sg_ad G))))))) (hI.at hk) ht' hv hd (k p l e R s m args below meth c H locs ls cells slots mc ms C h1 h2 h3 h4 hI hS hL)
-- the script
theorem sw_sld {i : Int32} (hd : decode y.2.1 pc = .ok (.iaload, 1)) (hx : sg_ad G 1999 = (sg_x G).1) (hin : vp_in i (sg_x G).2.1) (k : SW G y d bc bs (pc + 1) L (.int ((sg_x G).2.2 i.toNatClampNeg) :: st) h P) : SW G y d bc bs pc L (.int i :: .ref 1999 :: st) h P := by
  intro p l e R s m args below meth c H locs ls cells slots mc ms C h1 h2 h3 h4 hI hS hL
  show W p l e R s m args below meth c H locs cells slots _ (F0 m pc ls (.int i :: .ref (sg_ad G 1999) :: _))
  rw [hx]
  exact va_sld C.x C.b C.E.xs.1 (Nat.lt_of_lt_of_le C.E.xs.2 C.E.oz) (Nat.not_le.mpr C.E.xs.2) hS hin hd (k p l e R s m args below meth c H locs ls cells slots mc ms C h1 h2 h3 h4 hI hS hL)
theorem sw_slen (hd : decode y.2.1 pc = .ok (.arraylength, 1)) (hx : sg_ad G 1999 = (sg_x G).1) (k : SW G y d bc bs (pc + 1) L (.int (Int32.ofNat (sg_x G).2.1) :: st) h P) : SW G y d bc bs pc L (.ref 1999 :: st) h P := by
  intro p l e R s m args below meth c H locs ls cells slots mc ms C h1 h2 h3 h4 hI hS hL
  show W p l e R s m args below meth c H locs cells slots _ (F0 m pc ls (.ref (sg_ad G 1999) :: _))
  rw [hx]
  exact va_slen C.x C.b C.E.xs.1 (Nat.lt_of_lt_of_le C.E.xs.2 C.E.oz) (Nat.not_le.mpr C.E.xs.2) hS hd (k p l e R s m args below meth c H locs ls cells slots mc ms C h1 h2 h3 h4 hI hS hL)
-- old cells
theorem sw_gets {ix : Nat} {C0 nm ds : String} {v : Value} (hd : decode y.2.1 pc = .ok (.getstatic ix, 3)) (hw : Cond.fieldLink y.1.cls ix C0 nm ds ∈ wtab) (hq : (C0, nm, ds, v) ∈ ro_st) (k : SW G y d bc bs (pc + 3) L (v :: st) h P) : SW G y d bc bs pc L st h P := by
  intro p l e R s m args below meth c H locs ls cells slots mc ms C h1 h2 h3 h4 hI hS hL
  exact va_gets C.x C.b (C.E.st _ hq) hS C.own (C.ts _ hw) (fun _ q => q) hd (k p l e R s m args below meth c H locs ls cells slots mc ms C h1 h2 h3 h4 hI hS hL)
theorem sw_getr {ix a : Nat} {o nm ds : String} {v : Value} (hd : decode y.2.1 pc = .ok (.getfield ix, 3)) (hw : Cond.fieldLink y.1.cls ix o nm ds ∈ wtab) (hq : (a, o, nm, ds, v) ∈ ro_fd) (k : SW G y d bc bs (pc + 3) L (v :: st) h P) : SW G y d bc bs pc L (.ref a :: st) h P := by
  intro p l e R s m args below meth c H locs ls cells slots mc ms C h1 h2 h3 h4 hI hS hL
  exact vk_getf C.x C.b (C.E.fd _ hq) hS C.own (C.ts _ hw) (fun _ q => q) hd (k p l e R s m args below meth c H locs ls cells slots mc ms C h1 h2 h3 h4 hI hS hL)
theorem sw_getrN {ix a : Nat} {o nm ds : String} {v : Value} (hd : decode y.2.1 pc = .ok (.getfield ix, 3)) (hw : (y.1.cls, ix, o, nm, ds) ∈ ro_nf) (hq : (a, o, nm, ds, v) ∈ ro_fd) (k : SW G y d bc bs (pc + 3) L (v :: st) h P) : SW G y d bc bs pc L (.ref a :: st) h P := by
  intro p l e R s m args below meth c H locs ls cells slots mc ms C h1 h2 h3 h4 hI hS hL
  obtain ⟨cf, k0, fi, f, cell, g1, g2, g3, g4, g5, g6⟩ := (C.E.fd _ hq).kept hS.2.1
  exact va_Wgetf C.x C.b C.own (va_Nw.use rfl (C.E.nf _ hw)) g1 g2 g3 g4 (v := sg_tr G v) g5 rfl rfl hd (k p l e R s m args below meth c H locs ls cells slots mc ms C h1 h2 h3 h4 hI hS hL)
theorem sw_ialdR {a N : Nat} {cs : List Value} {i : Int32} {v : Value} (hd : decode y.2.1 pc = .ok (.iaload, 1)) (hq : (a, FieldType.int, N, cs) ∈ ro_ar) (hin : vp_in i N) (hv : cs.getD i.toNatClampNeg .null = v) (k : SW G y d bc bs (pc + 1) L (v :: st) h P) : SW G y d bc bs pc L (.int i :: .ref a :: st) h P := by
  intro p l e R s m args below meth c H locs ls cells slots mc ms C h1 h2 h3 h4 hI hS hL
  exact va_ti C.x C.b (C.E.ar _ hq) hS hin (v := sg_tr G v) (by rw [hv]) hd (k p l e R s m args below meth c H locs ls cells slots mc ms C h1 h2 h3 h4 hI hS hL)
theorem sw_baldR {a N : Nat} {cs : List Value} {i : Int32} {v : Value} (hd : decode y.2.1 pc = .ok (.baload, 1)) (hq : (a, FieldType.byte, N, cs) ∈ ro_ar) (hin : vp_in i N) (hv : cs.getD i.toNatClampNeg .null = v) (k : SW G y d bc bs (pc + 1) L (v :: st) h P) : SW G y d bc bs pc L (.int i :: .ref a :: st) h P := by
  intro p l e R s m args below meth c H locs ls cells slots mc ms C h1 h2 h3 h4 hI hS hL
  exact va_tb C.x C.b (C.E.ar _ hq) hS hin (v := sg_tr G v) (by rw [hv]) hd (k p l e R s m args below meth c H locs ls cells slots mc ms C h1 h2 h3 h4 hI hS hL)
theorem sw_aaldR {a N : Nat} {nm : String} {cs : List Value} {i : Int32} {v : Value} (hd : decode y.2.1 pc = .ok (.aaload, 1)) (hq : (a, FieldType.object nm, N, cs) ∈ ro_ar) (hin : vp_in i N) (hv : cs.getD i.toNatClampNeg .null = v) (k : SW G y d bc bs (pc + 1) L (v :: st) h P) : SW G y d bc bs pc L (.int i :: .ref a :: st) h P := by
  intro p l e R s m args below meth c H locs ls cells slots mc ms C h1 h2 h3 h4 hI hS hL
  obtain ⟨cell, g1, g2, g3, g4, g5, g6, g7⟩ := C.E.ar _ hq
  dsimp only at g1 g2 g4 g5 g6 g7
  have hlt : i.toNatClampNeg < N := Nat.not_le.mp fun q => hin (Or.inr q)
  have hin' : ¬ (i < 0 ∨ cell.slots.size ≤ i.toNatClampNeg) := by
    intro q
    rcases q with q | q
    · exact hin (Or.inl q)
    · omega
  exact W.aald (v := sg_tr G v) (ty := .object nm) C.x C.b (by rw [hS.2.1 _ (Array.getElem?_eq_some_iff.mp g1).1 g7]; exact g1) g2 rfl g3 hin' (by rw [g6 _ hlt, hv]) rfl rfl hd (k p l e R s m args below meth c H locs ls cells slots mc ms C h1 h2 h3 h4 hI hS hL)
theorem sw_alenR {a N : Nat} {ty : FieldType} {cs : List Value} {v : Int32} (hd : decode y.2.1 pc = .ok (.arraylength, 1)) (hq : (a, ty, N, cs) ∈ ro_ar) (hv : Int32.ofNat N = v) (k : SW G y d bc bs (pc + 1) L (.int v :: st) h P) : SW G y d bc bs pc L (.ref a :: st) h P := by
  intro p l e R s m args below meth c H locs ls cells slots mc ms C h1 h2 h3 h4 hI hS hL
  exact va_tlen C.x C.b (C.E.ar _ hq) hS hv hd (k p l e R s m args below meth c H locs ls cells slots mc ms C h1 h2 h3 h4 hI hS hL)
end ROWS3
