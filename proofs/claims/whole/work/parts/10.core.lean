/-! THE MACHINE BY PLACES: cells that were made since the law began, by the order of their making (place k lies at old + k); old cells have places from 1000 on. SW: from here the method comes to its end with P. -/
abbrev AE : Type := (Nat × Nat × ((Nat → Int32) ⊕ (Nat → Int64) ⊕ (Nat → Option Nat))) ⊕ (Nat × List Value)
abbrev AH : Type := List AE
/-- classes, array classes by tag, heap size at the law's start, addresses of old cells, the formatter, cells may be made, the script -/
abbrev SG : Type := va_G × (Nat → ClassId) × Nat × (Nat → Nat) × Value × Bool × (Nat × Nat × (Nat → Int32))
abbrev sg_D (G : SG) : va_G := G.1
abbrev sg_t (G : SG) : Nat → ClassId := G.2.1
abbrev sg_o (G : SG) : Nat := G.2.2.1
abbrev sg_r (G : SG) : Nat → Nat := G.2.2.2.1
abbrev sg_f (G : SG) : Value := G.2.2.2.2.1
abbrev sg_al (G : SG) : Bool := G.2.2.2.2.2.1
abbrev sg_x (G : SG) : Nat × Nat × (Nat → Int32) := G.2.2.2.2.2.2
def sg_ad (G : SG) (k : Nat) : Nat := if k < 1000 then sg_o G + k else sg_r G k
def sg_tr (G : SG) (v : Value) : Value := match v with
  | .ref k => .ref (sg_ad G k)
  | .retAddr n => if n = 7 then sg_f G else .retAddr n
  | .int x => .int x
  | .long x => .long x
  | .float x => .float x
  | .double x => .double x
  | .null => .null
def sg_te (G : SG) (e : AE) : va_E := match e with
  | .inl (t, n, .inl f) => .inl (sg_t G t, n, .inl f)
  | .inl (t, n, .inr (.inl f)) => .inl (sg_t G t, n, .inr (.inl f))
  | .inl (t, n, .inr (.inr f)) => .inl (sg_t G t, n, .inr (.inr (.inr (.inr (fun i => (f i).map (sg_ad G))))))
  | .inr (ci, fs) => .inr (ci, fs.map (sg_tr G))
def sg_en (G : SG) (h : AH) : va_W := h.zipIdx.map (fun q => (sg_o G + q.2, sg_te G q.1))
def sg_A (G : SG) : Nat → Prop := fun q => sg_o G ≤ q
def sg_ty (G : SG) : List (ClassId × FieldType) := [(sg_t G 0, .int), (sg_t G 1, .boolean), (sg_t G 2, .long), (sg_t G 3, .object RX1)]
theorem sg_en_get (G : SG) (h : AH) (k : Nat) : (sg_en G h)[k]? = (h[k]?).map (fun e => (sg_o G + k, sg_te G e)) := by
  simp [sg_en, List.getElem?_map, List.getElem?_zipIdx, Function.comp_def]
theorem sg_en_at {G : SG} {h : AH} {k : Nat} {e : AE} (hk : h[k]? = some e) : (sg_en G h)[k]? = some (sg_o G + k, sg_te G e) := by
  rw [sg_en_get, hk]; rfl
theorem sg_en_set (G : SG) (h : AH) (k : Nat) (e : AE) : sg_en G (h.set k e) = (sg_en G h).set k (sg_o G + k, sg_te G e) := by
  apply List.ext_getElem?
  intro i
  rw [sg_en_get, List.getElem?_set, List.getElem?_set]
  have hl : (sg_en G h).length = h.length := by simp [sg_en]
  rw [hl]
  by_cases hi : k = i
  · subst hi
    by_cases hk : k < h.length
    · simp [hk]
    · simp [hk]
  · simp [hi, sg_en_get]
theorem sg_en_push (G : SG) (h : AH) (e : AE) : sg_en G (h ++ [e]) = sg_en G h ++ [(sg_o G + h.length, sg_te G e)] := by
  apply List.ext_getElem?
  intro i
  have hl : (sg_en G h).length = h.length := by simp [sg_en]
  rw [sg_en_get, List.getElem?_append, List.getElem?_append, hl]
  by_cases hi : i < h.length
  · simp [hi, sg_en_get]
  · rw [if_neg hi, if_neg hi]
    by_cases hz : i - h.length = 0
    · rw [hz]; simp; omega
    · have : ∀ {α : Type} (x : α), [x][i - h.length]? = none := fun x => by simp; omega
      rw [this, this]; rfl
theorem sg_Dn (G : SG) (h : AH) : va_D (sg_A G) (sg_en G h) := by
  refine ⟨fun i j p q hi hj hpq => ?_, fun k q hk => ?_⟩
  · rw [sg_en_get] at hi hj
    cases h1 : h[i]? with
    | none => rw [h1] at hi; cases hi
    | some e1 =>
      cases h2 : h[j]? with
      | none => rw [h2] at hj; cases hj
      | some e2 =>
        rw [h1] at hi; rw [h2] at hj
        cases hi; cases hj
        have : sg_o G + i = sg_o G + j := hpq
        omega
  · rw [sg_en_get] at hk
    cases h1 : h[k]? with
    | none => rw [h1] at hk; cases hk
    | some e1 => rw [h1] at hk; cases hk; exact Nat.le_add_right _ _
theorem sg_tr_int (G : SG) (x : Int32) : sg_tr G (.int x) = .int x := rfl
theorem sg_ad_lt {G : SG} {k : Nat} (h : k < 1000) : sg_ad G k = sg_o G + k := if_pos h
/-- what holds of the heap -/
def sg_I (G : SG) (h : AH) (H : Heap) : Prop := va_P (sg_D G) vwCl (sg_en G h) H ∧ h.length ≤ 1000 ∧ sg_o G + h.length ≤ H.size ∧ (sg_al G = true → H.size = sg_o G + h.length)
theorem sg_I.lt {G : SG} {h : AH} {H : Heap} (hI : sg_I G h H) {k : Nat} {e : AE} (hk : h[k]? = some e) : k < 1000 := by
  have h1 : k < h.length := (List.getElem?_eq_some_iff.mp hk).1
  exact Nat.lt_of_lt_of_le h1 hI.2.1
theorem sg_I.at {G : SG} {h : AH} {H : Heap} (hI : sg_I G h H) {k : Nat} {e : AE} (hk : h[k]? = some e) : (sg_en G h)[k]? = some (sg_ad G k, sg_te G e) := by
  rw [sg_ad_lt (hI.lt hk)]; exact sg_en_at hk
/-- the locals -/
def sg_L (G : SG) (L : List Value) (nL : Nat) (ls : Array Slot) : Prop := ls.size = nL ∧ lv_wf ls ∧ L.length = nL ∧ ∀ (i : Nat) (v : Value), L[i]? = some v → v ≠ .retAddr 0 → ls[i]? = some (.val (sg_tr G v))
def sg_lv (G : SG) (L : List Value) : List (Nat × Value) := L.zipIdx.filterMap (fun q => if q.1 = .retAddr 0 then none else some (q.2, sg_tr G q.1))
theorem sg_lv_mem {G : SG} {L : List Value} {q : Nat × Value} : q ∈ sg_lv G L ↔ ∃ v, L[q.1]? = some v ∧ v ≠ .retAddr 0 ∧ q.2 = sg_tr G v := by
  unfold sg_lv
  rw [List.mem_filterMap]
  constructor
  · rintro ⟨⟨v, i⟩, hm, hq⟩
    rw [List.mem_zipIdx_iff_getElem?] at hm
    by_cases hv : v = .retAddr 0
    · simp [hv] at hq
    · simp [hv] at hq
      subst hq
      exact ⟨v, hm, hv, rfl⟩
  · rintro ⟨v, h1, h2, h3⟩
    refine ⟨(v, q.1), List.mem_zipIdx_iff_getElem?.mpr h1, ?_⟩
    simp [h2, ← h3]
theorem sg_L.has {G : SG} {L : List Value} {nL : Nat} {ls : Array Slot} (h : sg_L G L nL ls) : lv_has ls nL (sg_lv G L) := by
  refine ⟨h.1, h.2.1, fun q hq => ?_⟩
  obtain ⟨v, h1, h2, h3⟩ := sg_lv_mem.mp hq
  rw [h3]
  exact h.2.2.2 _ _ h1 h2
theorem sg_L.get {G : SG} {L : List Value} {nL : Nat} {ls : Array Slot} (h : sg_L G L nL ls) {i : Nat} {v : Value} (hi : L[i]? = some v) (hv : v ≠ .retAddr 0) : ls[i]? = some (.val (sg_tr G v)) := h.2.2.2 _ _ hi hv
/-- a store at i doesn't cut a long in two -/
def sg_ok (L : List Value) (i : Nat) : Prop := ∀ w, L[i - 1]? = some w → i = 0 ∨ w.category = 1
theorem sg_catT {G : SG} (hf : (sg_f G).category = 1) (v : Value) : (sg_tr G v).category = v.category := by
  cases v with
  | retAddr n =>
    show (if n = 7 then sg_f G else Value.retAddr n).category = _
    by_cases hn : n = 7
    · rw [if_pos hn, hf]; rfl
    · rw [if_neg hn]
  | _ => rfl
theorem sg_L.set1 {G : SG} {L : List Value} {nL i : Nat} {ls : Array Slot} {v : Value} (hf : (sg_f G).category = 1) (h : sg_L G L nL ls) (hok : sg_ok L i) (hv : v ≠ .retAddr 0) {ls' : Array Slot}
    (h' : lv_has ls' nL ((i, sg_tr G v) :: (sg_lv G L).filter (fun q => !(q.1 == i) && !(q.1 + 1 == i && q.2.category == 2)))) : sg_L G (L.set i v) nL ls' := by
  refine ⟨h'.1, h'.2.1, by rw [List.length_set]; exact h.2.2.1, fun j w hj hw => ?_⟩
  by_cases hij : i = j
  · subst hij
    have hlt := (List.getElem?_eq_some_iff.mp hj).1
    rw [List.length_set] at hlt
    rw [List.getElem?_set_self hlt] at hj
    cases hj
    exact h'.2.2 (i, sg_tr G v) List.mem_cons_self
  · rw [List.getElem?_set_ne hij] at hj
    refine h'.2.2 (j, sg_tr G w) (List.mem_cons_of_mem _ (List.mem_filter.mpr ⟨sg_lv_mem.mpr ⟨w, hj, hw, rfl⟩, ?_⟩))
    have h1 : (j == i) = false := by simp; omega
    by_cases h2 : j + 1 = i
    · have h3 : w.category = 1 := by
        rcases hok w (by rw [show i - 1 = j by omega]; exact hj) with z | z
        · omega
        · exact z
      simp [h1, sg_catT hf, h3]
    · have h4 : (j + 1 == i) = false := by simp; omega
      simp [h1, h4]
theorem sg_L.set2 {G : SG} {L : List Value} {nL i : Nat} {ls : Array Slot} {v : Value} (hf : (sg_f G).category = 1) (h : sg_L G L nL ls) (hok : sg_ok L i) (hv : v ≠ .retAddr 0) {ls' : Array Slot}
    (h' : lv_has ls' nL ((i, sg_tr G v) :: (sg_lv G L).filter (fun q => !(q.1 == i) && (!(q.1 == i + 1) && !(q.1 + 1 == i && q.2.category == 2))))) : sg_L G ((L.set i v).set (i + 1) (.retAddr 0)) nL ls' := by
  refine ⟨h'.1, h'.2.1, by rw [List.length_set, List.length_set]; exact h.2.2.1, fun j w hj hw => ?_⟩
  by_cases hj1 : i + 1 = j
  · subst hj1
    have hlt := (List.getElem?_eq_some_iff.mp hj).1
    rw [List.length_set] at hlt
    rw [List.getElem?_set_self hlt] at hj
    cases hj
    exact absurd rfl hw
  · rw [List.getElem?_set_ne hj1] at hj
    by_cases hij : i = j
    · subst hij
      have hlt := (List.getElem?_eq_some_iff.mp hj).1
      rw [List.length_set] at hlt
      rw [List.getElem?_set_self hlt] at hj
      cases hj
      exact h'.2.2 (i, sg_tr G v) List.mem_cons_self
    · rw [List.getElem?_set_ne hij] at hj
      refine h'.2.2 (j, sg_tr G w) (List.mem_cons_of_mem _ (List.mem_filter.mpr ⟨sg_lv_mem.mpr ⟨w, hj, hw, rfl⟩, ?_⟩))
      have h1 : (j == i) = false := by simp; omega
      have h5 : (j == i + 1) = false := by simp; omega
      by_cases h2 : j + 1 = i
      · have h3 : w.category = 1 := by
          rcases hok w (by rw [show i - 1 = j by omega]; exact hj) with z | z
          · omega
          · exact z
        simp [h1, h5, sg_catT hf, h3]
      · have h4 : (j + 1 == i) = false := by simp; omega
        simp [h1, h5, h4]
