def MLs (f : Nat → Int32) (es : Nat → List E3) : Prop := ∀ g, g < 4 → ∃ ms, ML f g ms ∧ ms.Perm (es g)
theorem MLs.upd {f f' : Nat → Int32} {es : Nat → List E3} {g : Nat} {ms l : List E3} (h : MLs f es) (hg : g < 4) (hM : ML f' g ms) (hG : MG f f' g) (hP : ms.Perm l) : MLs f' (fun j => if j = g then l else es j) := by
  intro j hj
  by_cases hjg : j = g
  · subst hjg; exact ⟨ms, hM, by show ms.Perm (if j = j then l else es j); rw [if_pos rfl]; exact hP⟩
  · obtain ⟨m', a, b⟩ := h j hj
    exact ⟨m', a.kept hg hj hjg hG, by show m'.Perm (if j = g then l else es j); rw [if_neg hjg]; exact b⟩
theorem MLs.cg {f : Nat → Int32} {es es' : Nat → List E3} (h : MLs f es) (he : ∀ g, g < 4 → es g = es' g) : MLs f es' := fun g hg => by rw [← he g hg]; exact h g hg
