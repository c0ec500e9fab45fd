/-! memories: the class's row is sorted, the reference's is not -/
def Srt (es : List E3) : Prop := es.Pairwise (fun a b => a.1 < b.1)
theorem i_irr (a : Int32) : ¬ a < a := by rw [Int32.lt_iff_toInt_lt]; omega
theorem i_tr {a b c : Int32} (h : a < b) (g : b < c) : a < c := by
  rw [Int32.lt_iff_toInt_lt] at *; omega
theorem i_nlt {a b : Int32} (h : ¬ a < b) : b ≤ a := by
  rw [Int32.lt_iff_toInt_lt] at h; rw [Int32.le_iff_toInt_le]; omega
theorem i_lt_of {a b : Int32} (h : ¬ b ≤ a) : a < b := by
  rw [Int32.le_iff_toInt_le] at h; rw [Int32.lt_iff_toInt_lt]; omega
theorem i_le_lt {a b c : Int32} (h : a ≤ b) (g : b < c) : a < c := by
  rw [Int32.le_iff_toInt_le] at h; rw [Int32.lt_iff_toInt_lt] at *; omega
theorem i_lt_le {a b c : Int32} (h : a < b) (g : b ≤ c) : a < c := by
  rw [Int32.le_iff_toInt_le] at g; rw [Int32.lt_iff_toInt_lt] at *; omega
theorem i_ne_lt {a b : Int32} (h : a ≤ b) (g : ¬ a = b) : a < b := by
  rw [Int32.le_iff_toInt_le] at h; rw [← Int32.toInt_inj] at g; rw [Int32.lt_iff_toInt_lt]; omega
theorem Srt.at {es : List E3} (h : Srt es) {i j : Nat} {a b : E3} (ha : es[i]? = some a) (hb : es[j]? = some b) (hij : i < j) : a.1 < b.1 := by
  obtain ⟨hi, ei⟩ := List.getElem?_eq_some_iff.mp ha
  obtain ⟨hj, ej⟩ := List.getElem?_eq_some_iff.mp hb
  have := List.pairwise_iff_getElem.mp h i j hi hj hij
  rw [ei, ej] at this
  exact this
theorem Srt.uniq {es : List E3} (h : Srt es) {a b : E3} (ha : a ∈ es) (hb : b ∈ es) (e : a.1 = b.1) : a = b := by
  obtain ⟨i, hi⟩ := List.mem_iff_getElem?.mp ha
  obtain ⟨j, hj⟩ := List.mem_iff_getElem?.mp hb
  rcases Nat.lt_trichotomy i j with q | q | q
  · have := h.at hi hj q; rw [e] at this; exact absurd this (i_irr _)
  · subst q; rw [hi] at hj; exact Option.some.inj hj
  · have := h.at hj hi q; rw [e] at this; exact absurd this (i_irr _)
theorem Srt.sub {a b : List E3} (h : Srt b) (s : a.Sublist b) : Srt a := List.Pairwise.sublist s h
theorem fix_none {id : Int32} {l : List E3} : fix id l = none ↔ ∀ e ∈ l, ¬ e.1 = id := by
  unfold fix
  rw [List.findIdx?_eq_none_iff]
  constructor
  · intro h e he q
    have := h e he
    simp [q] at this
  · intro h e he
    simp [h e he]
theorem fix_perm {id : Int32} {es ms : List E3} (hP : ms.Perm es) (hS : Srt es) : (fix id es = none ∧ fix id ms = none) ∨ ∃ j k e, fix id es = some j ∧ fix id ms = some k ∧ es[j]? = some e ∧ ms[k]? = some e ∧ e.1 = id := by
  cases hj : fix id es with
  | none =>
    refine Or.inl ⟨rfl, fix_none.mpr (fun e he => fix_none.mp hj e (hP.mem_iff.mp he))⟩
  | some j =>
    obtain ⟨e, he, hid⟩ := fix_some hj
    cases hk : fix id ms with
    | none => exact absurd hid (fix_none.mp hk e (hP.mem_iff.mpr (List.mem_of_getElem? he)))
    | some k =>
      obtain ⟨e', he', hid'⟩ := fix_some hk
      have : e' = e := hS.uniq (hP.mem_iff.mp (List.mem_of_getElem? he')) (List.mem_of_getElem? he) (hid'.trans hid.symm)
      subst this
      exact Or.inr ⟨j, k, e', rfl, rfl, he, he', hid⟩
/-! the eldest -/
def old (a b : E3) : Prop := a.2.2 < b.2.2 ∨ (a.2.2 = b.2.2 ∧ a.1 < b.1)
theorem eldI_min (t : Nat → Int32) : ∀ (c i b : Nat), b < i → (∀ j, j < i → t b ≤ t j ∧ (j < b → t b < t j)) → ∀ j, j < i + c → t (eldI t c i b) ≤ t j ∧ (j < eldI t c i b → t (eldI t c i b) < t j) := by
  intro c
  induction c with
  | zero => intro i b _ h j hj; exact h j hj
  | succ c ih =>
    intro i b hb h j hj
    unfold eldI
    by_cases hlt : t i < t b
    · rw [if_pos hlt]
      refine ih (i + 1) i (by omega) (fun j' hj' => ?_) j (by omega)
      by_cases hji : j' = i
      · subst hji; exact ⟨i_nlt (i_irr _), fun q => by omega⟩
      · have := (h j' (by omega)).1
        exact ⟨i_nlt (fun q => i_irr _ (i_lt_le hlt (Int32.le_iff_toInt_le.mpr (by have a := Int32.lt_iff_toInt_lt.mp q; have b := Int32.le_iff_toInt_le.mp this; omega)))), fun _ => i_lt_le hlt this⟩
    · rw [if_neg hlt]
      refine ih (i + 1) b (by omega) (fun j' hj' => ?_) j (by omega)
      by_cases hji : j' = i
      · subst hji; exact ⟨i_nlt hlt, fun q => by omega⟩
      · exact h j' (by omega)
theorem eld_old {es : List E3} (hS : Srt es) (h0 : 0 < es.length) : ∃ e, es[eld es]? = some e ∧ ∀ x ∈ es, x = e ∨ old e x := by
  have hl := eld_lt h0
  obtain ⟨e, he⟩ := getE hl
  refine ⟨e, he, fun x hx => ?_⟩
  obtain ⟨j, hj⟩ := List.mem_iff_getElem?.mp hx
  have hjl := (List.getElem?_eq_some_iff.mp hj).1
  have hm := eldI_min (tkE es) (es.length - 1) 1 0 (by omega) (fun j' hj' => by
    have : j' = 0 := by omega
    subst this
    exact ⟨i_nlt (i_irr _), fun q => by omega⟩) j (by omega)
  have hm : tkE es (eld es) ≤ tkE es j ∧ (j < eld es → tkE es (eld es) < tkE es j) := hm
  rw [tkE_at he, tkE_at hj] at hm
  rcases Nat.lt_trichotomy j (eld es) with q | q | q
  · exact Or.inr (Or.inl (hm.2 q))
  · rw [q, he] at hj; exact Or.inl (Option.some.inj hj).symm
  · by_cases hq : e.2.2 = x.2.2
    · exact Or.inr (Or.inr ⟨hq, hS.at he hj q⟩)
    · exact Or.inr (Or.inl (i_ne_lt hm.1 hq))
theorem old_tr {a b c : E3} (h : old a b) (g : old b c) : old a c := by
  rcases h with h | ⟨h1, h2⟩
  · rcases g with g | ⟨g1, g2⟩
    · exact Or.inl (i_tr h g)
    · exact Or.inl (g1 ▸ h)
  · rcases g with g | ⟨g1, g2⟩
    · exact Or.inl (h1 ▸ g)
    · exact Or.inr ⟨h1.trans g1, i_tr h2 g2⟩
theorem old_irr (a : E3) : ¬ old a a := by
  rintro (h | ⟨-, h⟩)
  · exact i_irr _ h
  · exact i_irr _ h
def gE (ms : List E3) (i : Nat) : E3 := ms.getD i (0, 0, 0)
theorem gE_at {ms : List E3} {i : Nat} {e : E3} (h : ms[i]? = some e) : gE ms i = e := by
  unfold gE; rw [List.getD_eq_getElem?_getD, h]; rfl
theorem gE_get {ms : List E3} {i : Nat} (h : i < ms.length) : ms[i]? = some (gE ms i) := by
  obtain ⟨e, he⟩ := getE h
  rw [gE_at he]; exact he
/-- the place that the reference picks -/
def elm (ms : List E3) : Nat → Nat → Nat → Nat
  | 0, _, b => b
  | c + 1, i, b => elm ms c (i + 1) (if (gE ms i).2.2 < (gE ms b).2.2 ∨ ((gE ms i).2.2 = (gE ms b).2.2 ∧ (gE ms i).1 < (gE ms b).1) then i else b)
theorem elm_lt (ms : List E3) : ∀ (c i b : Nat), b < i → elm ms c i b < i + c := by
  intro c
  induction c with
  | zero => intro i b h; exact h
  | succ c ih =>
    intro i b h
    unfold elm
    split
    · have := ih (i + 1) i (by omega); omega
    · have := ih (i + 1) b (by omega); omega
theorem elm_min (ms : List E3) : ∀ (c i b : Nat), b < i → (∀ j, j < i → ¬ old (gE ms j) (gE ms b)) → ∀ j, j < i + c → ¬ old (gE ms j) (gE ms (elm ms c i b)) := by
  intro c
  induction c with
  | zero => intro i b _ h j hj; exact h j hj
  | succ c ih =>
    intro i b hb h j hj
    unfold elm
    split
    · next ho =>
      refine ih (i + 1) i (by omega) (fun j' hj' => ?_) j (by omega)
      by_cases hji : j' = i
      · subst hji; exact old_irr _
      · exact fun q => h j' (by omega) (old_tr q ho)
    · next ho =>
      refine ih (i + 1) b (by omega) (fun j' hj' => ?_) j (by omega)
      by_cases hji : j' = i
      · subst hji; exact ho
      · exact h j' (by omega)
def eldM (ms : List E3) : Nat := elm ms (ms.length - 1) 1 0
theorem eldM_lt {ms : List E3} (h : 0 < ms.length) : eldM ms < ms.length := by
  have := elm_lt ms (ms.length - 1) 1 0 (by omega)
  unfold eldM; omega
/-- class and reference pick the same -/
theorem eld_same {es ms : List E3} (hP : ms.Perm es) (hS : Srt es) (h0 : 0 < es.length) : ∃ e, es[eld es]? = some e ∧ ms[eldM ms]? = some e := by
  obtain ⟨e, he, hm⟩ := eld_old hS h0
  refine ⟨e, he, ?_⟩
  have h0' : 0 < ms.length := by rw [hP.length_eq]; exact h0
  have hl := eldM_lt h0'
  have hg := gE_get hl
  rw [hg]
  rcases hm _ (hP.mem_iff.mp (List.mem_of_getElem? hg)) with q | q
  · rw [q]
  · exfalso
    obtain ⟨k, hk⟩ := List.mem_iff_getElem?.mp (hP.mem_iff.mpr (List.mem_of_getElem? he))
    have hkl := (List.getElem?_eq_some_iff.mp hk).1
    have := elm_min ms (ms.length - 1) 1 0 (by omega) (fun j hj => by
      have : j = 0 := by omega
      subst this; exact old_irr _) k (by omega)
    rw [gE_at hk] at this
    exact this q
/-! one is forgotten -/
def swp (ms : List E3) (k : Nat) : List E3 := (ms.set k (gE ms (ms.length - 1))).dropLast
theorem swp_len (ms : List E3) (k : Nat) : (swp ms k).length = ms.length - 1 := by
  unfold swp; rw [List.length_dropLast, List.length_set]
theorem swp_mid (a l : List E3) (e : E3) : ∃ l', swp (a ++ e :: l) a.length = a ++ l' ∧ l'.Perm l := by
  rcases List.eq_nil_or_concat l with rfl | ⟨r, z, rfl⟩
  · refine ⟨[], ?_, List.Perm.refl _⟩
    unfold swp
    rw [List.set_append_right _ _ (Nat.le_refl _), Nat.sub_self, List.set_cons_zero, List.dropLast_concat, List.append_nil]
  · refine ⟨z :: r, ?_, ?_⟩
    · unfold swp
      have : gE (a ++ e :: (r ++ [z])) ((a ++ e :: (r ++ [z])).length - 1) = z := by
        apply gE_at
        rw [show a ++ e :: (r ++ [z]) = (a ++ e :: r) ++ [z] by simp, List.getElem?_append_right (by simp)]
        simp
      rw [List.concat_eq_append, this, List.set_append_right _ _ (Nat.le_refl _), Nat.sub_self, List.set_cons_zero, show a ++ z :: (r ++ [z]) = (a ++ z :: r) ++ [z] by simp, List.dropLast_concat]
    · rw [List.concat_eq_append]
      exact (List.perm_append_singleton z r).symm
theorem swp_perm {ms : List E3} {k : Nat} {e : E3} (h : ms[k]? = some e) : (e :: swp ms k).Perm ms := by
  obtain ⟨hk, he⟩ := List.getElem?_eq_some_iff.mp h
  have hsp : ms = ms.take k ++ e :: ms.drop (k + 1) := by
    rw [← he, List.getElem_cons_drop, List.take_append_drop]
  obtain ⟨l', h1, h2⟩ := swp_mid (ms.take k) (ms.drop (k + 1)) e
  rw [← hsp, List.length_take, Nat.min_eq_left (by omega)] at h1
  rw [h1]
  conv => rhs; rw [hsp]
  refine List.Perm.trans ?_ (List.perm_middle.symm)
  exact (List.Perm.append_left _ h2).cons e
theorem swp_get {ms : List E3} {k i : Nat} (hi : i < ms.length - 1) (hk : k < ms.length) : (swp ms k)[i]? = some (if i = k then gE ms (ms.length - 1) else gE ms i) := by
  unfold swp
  rw [List.getElem?_dropLast, List.length_set, if_pos hi, List.getElem?_set]
  by_cases h : k = i
  · rw [if_pos h, if_pos (by omega), if_pos h.symm]
  · rw [if_neg h, if_neg (fun q => h q.symm)]
    exact gE_get (by omega)
theorem erase_perm {es : List E3} {j : Nat} {e : E3} (h : es[j]? = some e) : (e :: es.eraseIdx j).Perm es := by
  obtain ⟨hj, he⟩ := List.getElem?_eq_some_iff.mp h
  have hsp : es = es.take j ++ e :: es.drop (j + 1) := by
    rw [← he, List.getElem_cons_drop, List.take_append_drop]
  rw [List.eraseIdx_eq_take_drop_succ]
  conv => rhs; rw [hsp]
  exact List.perm_middle.symm
theorem forget_perm {es ms : List E3} {j k : Nat} {e : E3} (hP : ms.Perm es) (hj : es[j]? = some e) (hk : ms[k]? = some e) : (swp ms k).Perm (es.eraseIdx j) :=
  List.Perm.cons_inv (((swp_perm hk).trans hP).trans (erase_perm hj).symm)
theorem set_perm {ms : List E3} {k : Nat} {e e' : E3} (h : ms[k]? = some e) : (ms.set k e').Perm (e' :: ms.eraseIdx k) := by
  obtain ⟨hk, -⟩ := List.getElem?_eq_some_iff.mp h
  have := erase_perm (es := ms.set k e') (j := k) (e := e') (by rw [List.getElem?_set]; simp [hk])
  rw [List.eraseIdx_set_eq] at this
  exact this.symm
theorem set_both {es ms : List E3} {j k : Nat} {e e' : E3} (hP : ms.Perm es) (hj : es[j]? = some e) (hk : ms[k]? = some e) : (ms.set k e').Perm (es.set j e') := by
  have h1 : (ms.eraseIdx k).Perm (es.eraseIdx j) := List.Perm.cons_inv (((erase_perm hk).trans hP).trans (erase_perm hj).symm)
  exact ((set_perm hk).trans (h1.cons e')).trans (set_perm hj).symm
/-! one is put in -/
theorem insP_prop (f : Nat → Int32) (id : Int32) : ∀ n, (∀ i, insP f id n ≤ i → i < n → ¬ f i ≤ id) ∧ (0 < insP f id n → f (insP f id n - 1) ≤ id) := by
  intro n
  induction n with
  | zero => exact ⟨fun i _ h => by omega, fun h => absurd h (by unfold insP; omega)⟩
  | succ n ih =>
    unfold insP
    by_cases h : f n ≤ id
    · rw [if_pos h]
      exact ⟨fun i a b => by omega, fun _ => h⟩
    · rw [if_neg h]
      refine ⟨fun i a b => ?_, ih.2⟩
      by_cases hi : i = n
      · subst hi; exact h
      · exact ih.1 i a (by omega)
theorem ins_perm {es : List E3} {e : E3} : (insL es e).Perm (e :: es) := by
  unfold insL
  have hp := insP_le (flE es) e.1 es.length
  have := erase_perm (es := es.insertIdx (insP (flE es) e.1 es.length) e) (j := insP (flE es) e.1 es.length) (e := e) (by
    rw [List.getElem?_insertIdx_self]
    simp [hp])
  rw [List.eraseIdx_insertIdx_self] at this
  exact this.symm
theorem ins_srt {es : List E3} {e : E3} (hS : Srt es) (hn : ∀ x ∈ es, ¬ x.1 = e.1) : Srt (insL es e) := by
  unfold insL
  obtain ⟨h1, h2⟩ := insP_prop (flE es) e.1 es.length
  have hp := insP_le (flE es) e.1 es.length
  generalize insP (flE es) e.1 es.length = p at *
  have hlow : ∀ i x, es[i]? = some x → i < p → x.1 < e.1 := by
    intro i x hx hi
    have hil := (List.getElem?_eq_some_iff.mp hx).1
    refine i_ne_lt ?_ (hn x (List.mem_of_getElem? hx))
    have h3 := h2 (by omega)
    obtain ⟨y, hy⟩ := getE (es := es) (i := p - 1) (by omega)
    rw [flE_at hy] at h3
    by_cases hip : i = p - 1
    · rw [hip, hy] at hx; cases hx; exact h3
    · have := hS.at hx hy (by omega)
      exact i_nlt (fun q => i_irr _ (i_lt_le (i_tr q this) h3))
  have hhigh : ∀ i x, es[i]? = some x → p ≤ i → e.1 < x.1 := by
    intro i x hx hi
    have hil := (List.getElem?_eq_some_iff.mp hx).1
    have := h1 i hi hil
    rw [flE_at hx] at this
    exact i_lt_of this
  refine List.pairwise_iff_getElem.mpr (fun i j hi hj hij => ?_)
  have gi : ∀ k (hk : k < (es.insertIdx p e).length), (k < p ∧ es[k]? = some (es.insertIdx p e)[k]) ∨ (k = p ∧ (es.insertIdx p e)[k] = e) ∨ (p < k ∧ es[k - 1]? = some (es.insertIdx p e)[k]) := by
    intro k hk
    have hg := List.getElem?_eq_getElem hk
    rw [List.getElem?_insertIdx] at hg
    by_cases a : k < p
    · rw [if_pos a] at hg; exact Or.inl ⟨a, hg⟩
    · rw [if_neg a] at hg
      by_cases b : k = p
      · rw [if_pos b, if_pos (by omega)] at hg
        exact Or.inr (Or.inl ⟨b, (Option.some.inj hg).symm⟩)
      · rw [if_neg b] at hg
        exact Or.inr (Or.inr ⟨by omega, hg⟩)
  rcases gi i hi with ⟨a, b⟩ | ⟨a, b⟩ | ⟨a, b⟩ <;> rcases gi j hj with ⟨c, d⟩ | ⟨c, d⟩ | ⟨c, d⟩
  · exact hS.at b d hij
  · rw [d]; exact hlow _ _ b a
  · exact hS.at b d (by omega)
  · omega
  · omega
  · rw [b]; exact hhigh _ _ d (by omega)
  · omega
  · omega
  · exact hS.at b d (by omega)
theorem set_srt {es : List E3} {j : Nat} {e e' : E3} (hS : Srt es) (hj : es[j]? = some e) (hid : e'.1 = e.1) : Srt (es.set j e') := by
  refine List.pairwise_iff_getElem.mpr (fun i k hi hk hik => ?_)
  rw [List.length_set] at hi hk
  have gi : ∀ k (hk : k < es.length), (es.set j e')[k]'(by rw [List.length_set]; exact hk) = if j = k then e' else es[k] := by
    intro k hk
    rw [List.getElem_set]
  rw [gi i hi, gi k hk]
  have h0 := List.pairwise_iff_getElem.mp hS i k hi hk hik
  obtain ⟨hjl, hje⟩ := List.getElem?_eq_some_iff.mp hj
  by_cases a : j = i
  · subst a
    rw [if_pos rfl, if_neg (by omega), hid, ← hje]
    exact h0
  · rw [if_neg a]
    by_cases b : j = k
    · subst b
      rw [if_pos rfl, hid, ← hje]
      exact h0
    · rw [if_neg b]; exact h0
