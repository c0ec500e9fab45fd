/-! a table doesn't hang on what stood in the rows before -/
def TR (p n m : Nat) (S S' : TS) : Prop := (∀ j, j < p → S.1 j = S'.1 j) ∧ (∀ b, b < n → m.testBit b = true → S.2.1 b = S'.2.1 b ∧ S.2.2.1 b = S'.2.2.1 b) ∧ S.2.2.2 = S'.2.2.2
theorem prb_congr {t t' : Nat → Int32} {s p : Nat} (hp : 0 < p) (ht : ∀ j, j < p → t j = t' j) : ∀ (c q : Nat), q < p → prb t s p c q = prb t' s p c q := by
  intro c
  induction c with
  | zero => intro q _; rfl
  | succ c ih =>
    intro q hq
    unfold prb
    rw [ht q hq, ih _ (Nat.mod_lt _ hp)]
theorem vis_TR {p n m b : Nat} {hv : Int32} {wt sk sk' : Nat → Int32} {S S' : TS} (hp : 0 < p) (hp2 : p ≤ 97) (hb : b < n) (hsk : ∀ b, b < n → m.testBit b = true → sk b = sk' b) (hpl : plOk p n m S) (hT : TR p n m S S') : TR p n m (vis p hv m wt sk b S) (vis p hv m wt sk' b S') := by
  obtain ⟨h1, h2, h3⟩ := hT
  unfold vis
  by_cases hbit : m.testBit b = true
  · rw [if_pos hbit, if_pos hbit]
    obtain ⟨ha, hc⟩ := h2 b hb hbit
    rw [← ha, ← hc, ← hsk b hb hbit, ← h3]
    obtain ⟨q, hq, hqe⟩ := hpl.1 b hb hbit
    have hpr : prb S.1 (sk b).toNatClampNeg p p (S.2.1 b).toNatClampNeg = prb S'.1 (sk b).toNatClampNeg p p (S.2.1 b).toNatClampNeg := prb_congr hp h1 _ _ (by rw [hqe, nI_clamp (by omega)]; exact hq)
    rw [← hpr]
    by_cases hl : hv ≤ S.2.2.1 b + wt b
    · rw [if_pos hl, if_pos hl]
      refine ⟨fun j hj => ?_, fun i hi hm => ?_, rfl⟩
      · simp only [upd]; split
        · rfl
        · exact h1 j hj
      · simp only [upd]
        by_cases hib : i = b
        · simp [hib]
        · simp [hib]; exact h2 i hi hm
    · rw [if_neg hl, if_neg hl]
      refine ⟨h1, fun i hi hm => ?_, rfl⟩
      simp only [upd]
      by_cases hib : i = b
      · rw [if_pos hib, if_pos hib]; exact ⟨(h2 i hi hm).1, rfl⟩
      · rw [if_neg hib, if_neg hib]; exact h2 i hi hm
  · rw [if_neg hbit, if_neg hbit]; exact ⟨h1, h2, h3⟩
theorem inn_TR {p n m : Nat} {hv : Int32} {wt sk sk' : Nat → Int32} (hp : 0 < p) (hp2 : p ≤ 97) (hsk : ∀ b, b < n → m.testBit b = true → sk b = sk' b) : ∀ (c i : Nat) (S S' : TS), i + c ≤ n → plOk p n m S → TR p n m S S' → TR p n m (inn p hv m wt sk c i S) (inn p hv m wt sk' c i S') := by
  intro c
  induction c with
  | zero => intro i S S' _ _ h; exact h
  | succ c ih =>
    intro i S S' hi hpl hT
    unfold inn
    rw [← hT.2.2]
    split
    · exact hT
    · exact ih (i + 1) _ _ (by omega) (vis_ok hp hp2 hpl (by omega)) (vis_TR hp hp2 (by omega) hsk hpl hT)
theorem rnd_TR {p n m : Nat} {hv : Int32} {wt sk sk' : Nat → Int32} (hp : 0 < p) (hp2 : p ≤ 97) (hsk : ∀ b, b < n → m.testBit b = true → sk b = sk' b) : ∀ (c : Nat) (S S' : TS), plOk p n m S → TR p n m S S' → TR p n m (rnd p n hv m wt sk c S) (rnd p n hv m wt sk' c S') := by
  intro c
  induction c with
  | zero => intro S S' _ h; exact h
  | succ c ih =>
    intro S S' hpl hT
    unfold rnd
    rw [← hT.2.2]
    split
    · exact hT
    · exact ih _ _ (inn_ok hp hp2 n 0 S (by omega) hpl) (inn_TR hp hp2 hsk n 0 S S' (by omega) hpl hT)
def S0 (p n m : Nat) (ks wt t pl cr : Nat → Int32) : TS := (filT t p, setU m n (fun j => offI (ks j) (nI p)) pl, setU m n (fun _ => 0) cr, if hvy m wt n = 0 then 0 else p)
theorem S0_ok {p n m : Nat} {ks wt t pl cr : Nat → Int32} (hp : 0 < p) (hp2 : p ≤ 97) : plOk p n m (S0 p n m ks wt t pl cr) := by
  refine ⟨fun b hb hm => ⟨offN (ks b) p, offN_lt hp, ?_⟩, by show (if _ then 0 else p) ≤ p; split <;> omega⟩
  show setU m n (fun j => offI (ks j) (nI p)) pl b = _
  rw [setU, if_pos ⟨hb, hm⟩]
  exact offI_N hp (by omega)
/-- the table -/
def tbl (p n m : Nat) (ks wt : Nat → Int32) : Nat → Int32 := (mkS p n m ks wt (fun _ => 0) (fun _ => 0) (fun _ => 0) (fun _ => 0)).1
theorem mkS_tb {p n m : Nat} {ks wt t pl sk cr : Nat → Int32} (hp : 0 < p) (hp2 : p ≤ 97) {j : Nat} (hj : j < p) : (mkS p n m ks wt t pl sk cr).1 j = tbl p n m ks wt j := by
  refine (rnd_TR (hv := hvy m wt n) (wt := wt) hp hp2 ?_ p (S0 p n m ks wt t pl cr) (S0 p n m ks wt (fun _ => 0) (fun _ => 0) (fun _ => 0)) (S0_ok hp hp2) ⟨fun i hi => ?_, fun b hb hm => ⟨?_, ?_⟩, rfl⟩).1 j hj
  · intro b hb hm
    rw [setU, setU, if_pos ⟨hb, hm⟩, if_pos ⟨hb, hm⟩]
  · show filT t p i = filT (fun _ => 0) p i
    rw [filT, filT, if_pos hi, if_pos hi]
  · show setU m n (fun j => offI (ks j) (nI p)) pl b = setU m n (fun j => offI (ks j) (nI p)) (fun _ => 0) b
    rw [setU, setU, if_pos ⟨hb, hm⟩, if_pos ⟨hb, hm⟩]
  · show setU m n (fun _ => 0) cr b = setU m n (fun _ => 0) (fun _ => 0) b
    rw [setU, setU, if_pos ⟨hb, hm⟩, if_pos ⟨hb, hm⟩]
/-- a slot is nobody's, or of a backend that is up -/
def rgT (p n m : Nat) (t : Nat → Int32) : Prop := ∀ j, j < p → t j = -1 ∨ ∃ b, b < n ∧ m.testBit b = true ∧ t j = nI b
theorem vis_rg {p n m b : Nat} {hv : Int32} {wt sk : Nat → Int32} {S : TS} (hb : b < n) (h : rgT p n m S.1) : rgT p n m (vis p hv m wt sk b S).1 := by
  unfold vis
  split
  · next hbit =>
    split
    · intro j hj
      simp only [upd]
      split
      · exact Or.inr ⟨b, hb, hbit, rfl⟩
      · exact h j hj
    · exact h
  · exact h
theorem inn_rg {p n m : Nat} {hv : Int32} {wt sk : Nat → Int32} : ∀ (c i : Nat) (S : TS), i + c ≤ n → rgT p n m S.1 → rgT p n m (inn p hv m wt sk c i S).1 := by
  intro c
  induction c with
  | zero => intro i S _ h; exact h
  | succ c ih =>
    intro i S hi h
    unfold inn
    split
    · exact h
    · exact ih (i + 1) _ (by omega) (vis_rg (by omega) h)
theorem rnd_rg {p n m : Nat} {hv : Int32} {wt sk : Nat → Int32} : ∀ (c : Nat) (S : TS), rgT p n m S.1 → rgT p n m (rnd p n hv m wt sk c S).1 := by
  intro c
  induction c with
  | zero => intro S h; exact h
  | succ c ih =>
    intro S h
    unfold rnd
    split
    · exact h
    · exact ih _ (inn_rg n 0 S (by omega) h)
theorem tbl_rg (p n m : Nat) (ks wt : Nat → Int32) : rgT p n m (tbl p n m ks wt) := by
  refine rnd_rg p _ (fun j hj => Or.inl ?_)
  show filT (fun _ => 0) p j = -1
  rw [filT, if_pos hj]
/-- the rows of Tables -/
def TabAt (h : AH) : Prop := TabO h ∧ (∃ t, h[4]? = some (.inl (0, 97, .inl t))) ∧ (∃ t, h[5]? = some (.inl (0, 97, .inl t))) ∧ (∃ t, h[6]? = some (.inl (0, 8, .inl t))) ∧ (∃ t, h[7]? = some (.inl (0, 8, .inl t))) ∧ ∃ t, h[8]? = some (.inl (0, 8, .inl t))
theorem TabAt.kept {h h' : AH} (H : TabAt h) (hk : ∀ j, 3 ≤ j → j < 9 → h'[j]? = h[j]?) : TabAt h' := by
  obtain ⟨a, ⟨t4, b⟩, ⟨t5, c⟩, ⟨t6, d⟩, ⟨t7, e⟩, ⟨t8, f⟩⟩ := H
  exact ⟨(hk 3 (by omega) (by omega)).trans a, ⟨t4, (hk _ (by omega) (by omega)).trans b⟩, ⟨t5, (hk _ (by omega) (by omega)).trans c⟩, ⟨t6, (hk _ (by omega) (by omega)).trans d⟩, ⟨t7, (hk _ (by omega) (by omega)).trans e⟩, ⟨t8, (hk _ (by omega) (by omega)).trans f⟩⟩
/-- a table is made in the row o -/
theorem m_mk {G : SG} {d o b n m p : Nat} {h : AH} {t ks wt : Nat → Int32} (hO : oOk o b) (hm : m < 256) (hp0 : 1 < p) (hp : p ≤ 97) (hT : TabAt h) (hW : WV h b n ks wt) (ho : h[o]? = some (.inl (0, 97, .inl t))) :
    SW G mX3_make (d + 3) 0 0 0 [.ref 3, .ref o, .ref b, .int (nI m), .int (nI p), .retAddr 0, .retAddr 0, .retAddr 0, .retAddr 0] [] h (fun r h' => r = none ∧ SameM h h' o ∧ TabAt h' ∧ ∃ t', h'[o]? = some (.inl (0, 97, .inl t')) ∧ ∀ j, j < p → t' j = tbl p n m ks wt j) := by
  obtain ⟨a, ⟨t4, b4⟩, ⟨t5, c5⟩, ⟨t6, d6⟩, ⟨t7, e7⟩, ⟨t8, f8⟩⟩ := hT
  refine (m_make hO hm hp0 hp a hW ho d6 e7 f8).mono (fun r h' hq => ?_)
  obtain ⟨rfl, hS, e0, q6, q7, q8⟩ := hq
  refine ⟨rfl, hS, ⟨(hS.2 3 (by have := hO.1; omega) (by omega) (by omega) (by omega)).trans a, ?_, ?_, ⟨_, q6⟩, ⟨_, q7⟩, ⟨_, q8⟩⟩, _, e0, fun j hj => mkS_tb (by omega) hp hj⟩
  · by_cases ho4 : o = 4
    · subst ho4; exact ⟨_, e0⟩
    · exact ⟨t4, (hS.2 4 (by omega) (by omega) (by omega) (by omega)).trans b4⟩
  · by_cases ho5 : o = 5
    · subst ho5; exact ⟨_, e0⟩
    · exact ⟨t5, (hS.2 5 (by omega) (by omega) (by omega) (by omega)).trans c5⟩
theorem shrL_len {k : Nat} (hk : k < 2 ^ 31) : ∀ (c : Nat) (es : List E3), es.length ≤ c + k → es.length ≤ 16 → (shrL (nI k) c es).length ≤ k := by
  intro c
  induction c with
  | zero => intro es h _; unfold shrL; omega
  | succ c ih =>
    intro es h h16
    unfold shrL
    split
    · next hl => exact (nI_leI (by omega) hk).mp hl
    · next hl =>
      have hgt : k < es.length := by
        rcases Nat.lt_or_ge k es.length with z | z
        · exact z
        · exact absurd (nI_le z hk) hl
      have := eld_lt (es := es) (by omega)
      exact ih _ (by rw [List.length_eraseIdx_of_lt this]; omega) (by rw [List.length_eraseIdx_of_lt this]; omega)
