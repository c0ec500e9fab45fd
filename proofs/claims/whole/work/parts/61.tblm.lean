/-! the table by the reference: slots in a row, by an offset and a skip -/
def slt (o s p j : Nat) : Nat := (o + j * s) % p
theorem slt_lt {o s p j : Nat} (hp : 0 < p) : slt o s p j < p := Nat.mod_lt _ hp
theorem slt_1 {o s p j : Nat} : (slt o s p j + s) % p = slt o s p (j + 1) := by
  unfold slt
  rw [Nat.mod_add_mod, Nat.add_assoc, Nat.succ_mul]
theorem inv_all : (szN.all fun p => (List.range p).all fun s => decide (s = 0) || (List.range p).any fun t => decide (s * t % p = 1)) = true := by decide +kernel
theorem slt_surj {o s p x : Nat} (hp : p ∈ szN) (hs : 0 < s) (hs2 : s < p) (hx : x < p) : ∃ j, j < p ∧ slt o s p j = x := by
  have h := List.all_eq_true.mp (List.all_eq_true.mp inv_all p hp) s (List.mem_range.mpr hs2)
  rw [decide_eq_false (by omega), Bool.false_or] at h
  obtain ⟨t, ht, e⟩ := List.any_eq_true.mp h
  have hst := of_decide_eq_true e
  have hp0 : 0 < p := by omega
  refine ⟨(x + (p - o % p)) * t % p, Nat.mod_lt _ hp0, ?_⟩
  unfold slt
  have h1 : ((x + (p - o % p)) * t % p * s) % p = (x + (p - o % p)) % p := by
    rw [Nat.mul_mod, Nat.mod_mod, ← Nat.mul_mod, Nat.mul_assoc, Nat.mul_comm t s, Nat.mul_mod, hst, Nat.mul_one, Nat.mod_mod]
  have ho := Nat.mod_lt o hp0
  rw [Nat.add_mod, h1, Nat.add_mod_mod, show o % p + (x + (p - o % p)) = x + p by omega, Nat.add_mod_right, Nat.mod_eq_of_lt hx]
theorem least {P : Nat → Prop} : ∀ n, P n → ∃ m, m ≤ n ∧ P m ∧ ∀ i, i < m → ¬ P i := by
  intro n
  induction n using Nat.strongRecOn with
  | ind n ih =>
    intro h
    by_cases hx : ∃ k, k < n ∧ P k
    · obtain ⟨k, hk, hP⟩ := hx
      obtain ⟨m, a, b, c⟩ := ih k hk hP
      exact ⟨m, by omega, b, c⟩
    · exact ⟨n, Nat.le_refl _, h, fun i hi hP => hx ⟨i, hi, hP⟩⟩
theorem fst_free {t : Nat → Int32} {o s p j : Nat} (hp : p ∈ szN) (hs : 0 < s) (hs2 : s < p) (hf : ∃ x, x < p ∧ t x = -1) (hj : ∀ i, i < j → ¬ t (slt o s p i) = -1) : ∃ j', j ≤ j' ∧ j' < p ∧ t (slt o s p j') = -1 ∧ ∀ i, i < j' → ¬ t (slt o s p i) = -1 := by
  obtain ⟨x, hx, hx1⟩ := hf
  obtain ⟨i, hi, e⟩ := slt_surj (o := o) hp hs hs2 hx
  obtain ⟨m, a, b, c⟩ := least (P := fun i => t (slt o s p i) = -1) i (by show t (slt o s p i) = -1; rw [e]; exact hx1)
  refine ⟨m, ?_, by omega, b, c⟩
  by_cases h : j ≤ m
  · exact h
  · exact absurd b (hj m (by omega))
theorem prb_slt {t : Nat → Int32} {o s p j' : Nat} (hf : t (slt o s p j') = -1) : ∀ (c j : Nat), j ≤ j' → j' < j + c → (∀ i, j ≤ i → i < j' → ¬ t (slt o s p i) = -1) → prb t s p c (slt o s p j) = slt o s p j' := by
  intro c
  induction c with
  | zero => intro j a b _; omega
  | succ c ih =>
    intro j a b h
    unfold prb
    by_cases hjj : j = j'
    · subst hjj; rw [if_pos hf]
    · rw [if_neg (h j (Nat.le_refl _) (by omega)), slt_1]
      exact ih (j + 1) (by omega) (by omega) (fun i x y => h i (by omega) y)
theorem cntS_ex {t : Nat → Int32} {b : Int32} : ∀ p, 0 < cntS t b p → ∃ x, x < p ∧ t x = b := by
  intro p
  induction p with
  | zero => intro h; exact absurd h (by unfold cntS; omega)
  | succ p ih =>
    intro h
    by_cases hx : t p = b
    · exact ⟨p, by omega, hx⟩
    · unfold cntS at h
      rw [if_neg hx] at h
      obtain ⟨x, a, c⟩ := ih (by omega)
      exact ⟨x, by omega, c⟩
theorem cntS_upd {t : Nat → Int32} {b v : Int32} {q : Nat} (hq : t q = b) (hv : ¬ v = b) : ∀ p, q < p → cntS (upd t q v) b p + 1 = cntS t b p := by
  intro p
  induction p with
  | zero => intro h; omega
  | succ p ih =>
    intro h
    unfold cntS
    by_cases hpq : p = q
    · subst hpq
      rw [cntS_congr (t := upd t p v) (t' := t) p (fun j hj => by unfold upd; rw [if_neg (show ¬ j = p by omega)])]
      have e1 : ¬ upd t p v p = b := by unfold upd; rw [if_pos rfl]; exact hv
      rw [if_neg e1, if_pos hq]
    · have e1 : upd t q v p = t p := by unfold upd; rw [if_neg hpq]
      rw [e1]
      have := ih (by omega)
      omega
theorem cntS_fil (t : Nat → Int32) (p : Nat) : ∀ n, n ≤ p → cntS (filT t p) (-1) n = n := by
  intro n
  induction n with
  | zero => intro _; rfl
  | succ n ih =>
    intro h
    unfold cntS
    rw [ih (by omega), show filT t p n = -1 by rw [filT, if_pos (by omega)], if_pos rfl]
/-- weights of those up -/
def wtOk (n m : Nat) (wt : Nat → Int32) : Prop := ∀ b, b < n → m.testBit b = true → ∃ k, 1 ≤ k ∧ k ≤ 9 ∧ wt b = nI k
theorem hvy_N {m : Nat} {wt : Nat → Int32} : ∀ n, wtOk n m wt → ∃ H, H ≤ 9 ∧ hvy m wt n = nI H ∧ (∀ b, b < n → m.testBit b = true → ∀ k, k ≤ 9 → wt b = nI k → k ≤ H) ∧ (0 < H → ∃ b, b < n ∧ m.testBit b = true ∧ wt b = nI H) ∧ (H = 0 → ∀ b, b < n → ¬ m.testBit b = true) := by
  intro n
  induction n with
  | zero => intro _; exact ⟨0, by omega, rfl, fun b h => by omega, fun h => by omega, fun _ b h => by omega⟩
  | succ n ih =>
    intro hw
    obtain ⟨H, h9, e, up, ex, z⟩ := ih (fun b hb => hw b (by omega))
    unfold hvy
    by_cases hb : m.testBit n = true
    · obtain ⟨k, k1, k9, ke⟩ := hw n (by omega) hb
      rw [if_pos hb, e, ke]
      by_cases hlt : H < k
      · rw [if_pos (nI_lt hlt (by omega))]
        refine ⟨k, k9, rfl, fun b hbn hbit k' hk' hke => ?_, fun _ => ⟨n, by omega, hb, ke⟩, fun h => by omega⟩
        by_cases hbn2 : b = n
        · subst hbn2
          rw [ke] at hke
          have := (nI_eq (by omega) (by omega)).mp hke
          omega
        · have := up b (by omega) hbit k' hk' hke; omega
      · rw [if_neg (nI_nlt (by omega) (by omega))]
        refine ⟨H, h9, rfl, fun b hbn hbit k' hk' hke => ?_, fun h => ?_, fun h => by omega⟩
        · by_cases hbn2 : b = n
          · subst hbn2
            rw [ke] at hke
            have := (nI_eq (by omega) (by omega)).mp hke
            omega
          · exact up b (by omega) hbit k' hk' hke
        · obtain ⟨b, x, y⟩ := ex h; exact ⟨b, by omega, y⟩
    · rw [if_neg hb]
      refine ⟨H, h9, e, fun b hbn hbit k' hk' hke => ?_, fun h => ?_, fun h b hbn hbit => ?_⟩
      · by_cases hbn2 : b = n
        · subst hbn2; exact absurd hbit hb
        · exact up b (by omega) hbit k' hk' hke
      · obtain ⟨b, x, y⟩ := ex h; exact ⟨b, by omega, y⟩
      · by_cases hbn2 : b = n
        · subst hbn2; exact hb hbit
        · exact z h b (by omega) hbit
/-- class and reference while a table is laid -/
def oN (ks : Nat → Int32) (p b : Nat) : Nat := offN (ks b) p
def sN (ks : Nat → Int32) (p b : Nat) : Nat := skpN (ks b) p
def TM1 (p : Nat) (ks : Nat → Int32) (H : Nat) (S : TS) (cr nx : Nat → Int32) (b j k : Nat) : Prop := nx b = nI j ∧ S.2.1 b = nI (slt (oN ks p b) (sN ks p b) p j) ∧ (∀ i, i < j → ¬ S.1 (slt (oN ks p b) (sN ks p b) p i) = -1) ∧ j < p ∧ cr b = nI k ∧ S.2.2.1 b = nI k ∧ k < H
def TM (p n m : Nat) (ks : Nat → Int32) (H : Nat) (S : TS) (laid cr nx : Nat → Int32) : Prop := (∀ j, j < p → laid j = S.1 j) ∧ cntS S.1 (-1) p = S.2.2.2 ∧ ∀ b, b < n → m.testBit b = true → ∃ j k, TM1 p ks H S cr nx b j k
def skU (p n m : Nat) (ks : Nat → Int32) : Nat → Int32 := setU m n (fun j => skpI (ks j) (nI p)) (fun _ => 0)
theorem skU_at {p n m b : Nat} {ks : Nat → Int32} (hp : 1 < p) (hp2 : p ≤ 97) (hb : b < n) (hm : m.testBit b = true) : (skU p n m ks b).toNatClampNeg = sN ks p b := by
  unfold skU
  rw [setU, if_pos ⟨hb, hm⟩, skpI_N hp (by omega), nI_clamp (by have := skpN_lt (k := ks b) hp; omega)]
  rfl
theorem upd_at {f : Nat → Int32} {i : Nat} {v : Int32} : upd f i v i = v := by unfold upd; rw [if_pos rfl]
theorem upd_ne {f : Nat → Int32} {i j : Nat} {v : Int32} (h : ¬ j = i) : upd f i v j = f j := by unfold upd; rw [if_neg h]
theorem upd_upd {f : Nat → Int32} {i : Nat} {v w : Int32} : upd (upd f i v) i w = upd f i w := by
  funext j; unfold upd; split <;> rfl
theorem TM.skip {p n m b kb k j H : Nat} {ks wt : Nat → Int32} {S : TS} {laid cr nx : Nat → Int32} (hT : TM p n m ks H S laid cr nx) (hb : b < n) (hbit : m.testBit b = true) (h1 : TM1 p ks H S cr nx b j k) (hw : wt b = nI kb) (hkb : kb ≤ 9) (hH : H ≤ 9) (hlt : k + kb < H) : vis p (nI H) m wt (skU p n m ks) b S = (S.1, S.2.1, upd S.2.2.1 b (S.2.2.1 b + wt b), S.2.2.2) ∧ TM p n m ks H (vis p (nI H) m wt (skU p n m ks) b S) laid (upd cr b (nI (k + kb))) nx := by
  have e : S.2.2.1 b + wt b = nI (k + kb) := by rw [h1.2.2.2.2.2.1, hw, nI_add]
  have ev : vis p (nI H) m wt (skU p n m ks) b S = (S.1, S.2.1, upd S.2.2.1 b (S.2.2.1 b + wt b), S.2.2.2) := by
    unfold vis
    rw [if_pos hbit, e, if_neg (nI_ge (by omega) (by omega))]
  refine ⟨ev, ?_⟩
  rw [ev, e]
  refine ⟨hT.1, hT.2.1, fun b' hb' hbit' => ?_⟩
  by_cases hbb : b' = b
  · subst hbb
    exact ⟨j, k + kb, h1.1, h1.2.1, h1.2.2.1, h1.2.2.2.1, upd_at, upd_at, hlt⟩
  · obtain ⟨j', k', a⟩ := hT.2.2 b' hb' hbit'
    exact ⟨j', k', a.1, a.2.1, a.2.2.1, a.2.2.2.1, (upd_ne hbb).trans a.2.2.2.2.1, (upd_ne hbb).trans a.2.2.2.2.2.1, a.2.2.2.2.2.2⟩
theorem TM.take {p n m b kb k j j' H : Nat} {ks wt : Nat → Int32} {S : TS} {laid cr nx : Nat → Int32} (hp : 1 < p) (hp2 : p ≤ 97) (hn : n ≤ 8) (hT : TM p n m ks H S laid cr nx) (hb : b < n) (hbit : m.testBit b = true) (h1 : TM1 p ks H S cr nx b j k) (hw : wt b = nI kb) (hkb : kb ≤ H) (hH : H ≤ 9) (hge : H ≤ k + kb) (hjj : j ≤ j') (hj' : j' < p) (hfr : S.1 (slt (oN ks p b) (sN ks p b) p j') = -1) (hfi : ∀ i, i < j' → ¬ S.1 (slt (oN ks p b) (sN ks p b) p i) = -1) : (vis p (nI H) m wt (skU p n m ks) b S).2.2.2 = S.2.2.2 - 1 ∧ TM p n m ks H (vis p (nI H) m wt (skU p n m ks) b S) (upd laid (slt (oN ks p b) (sN ks p b) p j') (nI b)) (upd cr b (nI (k + kb - H))) (upd nx b (nI j')) := by
  have e : S.2.2.1 b + wt b = nI (k + kb) := by rw [h1.2.2.2.2.2.1, hw, nI_add]
  have hk : k < H := h1.2.2.2.2.2.2
  have hpr : prb S.1 (skU p n m ks b).toNatClampNeg p p (S.2.1 b).toNatClampNeg = slt (oN ks p b) (sN ks p b) p j' := by
    rw [skU_at hp hp2 hb hbit, h1.2.1, nI_clamp (by have := slt_lt (o := oN ks p b) (s := sN ks p b) (j := j) (show 0 < p by omega); omega)]
    exact prb_slt hfr p j hjj (by omega) (fun i _ hi => hfi i hi)
  have ev : vis p (nI H) m wt (skU p n m ks) b S = (upd S.1 (slt (oN ks p b) (sN ks p b) p j') (nI b), upd S.2.1 b (nI (slt (oN ks p b) (sN ks p b) p j')), upd (upd S.2.2.1 b (nI (k + kb))) b (nI (k + kb - H)), S.2.2.2 - 1) := by
    unfold vis
    rw [if_pos hbit, e, if_pos (nI_le hge (by omega)), hpr, pk_sub hge]
  refine ⟨by rw [ev], ?_⟩
  rw [ev]
  have hbne : ¬ nI b = -1 := nI_ne_m1 (by omega)
  have hslt := slt_lt (o := oN ks p b) (s := sN ks p b) (j := j') (show 0 < p by omega)
  refine ⟨fun i hi => ?_, ?_, fun b' hb' hbit' => ?_⟩
  · show upd laid _ _ i = upd S.1 _ _ i
    unfold upd
    split
    · rfl
    · exact hT.1 i hi
  · show cntS (upd S.1 _ _) (-1) p = S.2.2.2 - 1
    have := cntS_upd hfr hbne p hslt
    have e2 := hT.2.1
    omega
  · by_cases hbb : b' = b
    · subst hbb
      refine ⟨j', k + kb - H, upd_at, upd_at, fun i hi => ?_, hj', upd_at, upd_at, by omega⟩
      show ¬ upd S.1 _ _ _ = -1
      unfold upd
      split
      · exact hbne
      · exact hfi i hi
    · obtain ⟨j2, k2, a⟩ := hT.2.2 b' hb' hbit'
      refine ⟨j2, k2, (upd_ne hbb).trans a.1, (upd_ne hbb).trans a.2.1, fun i hi => ?_, a.2.2.2.1, (upd_ne hbb).trans a.2.2.2.2.1, ?_, a.2.2.2.2.2.2⟩
      · show ¬ upd S.1 _ _ _ = -1
        unfold upd
        split
        · exact hbne
        · exact a.2.2.1 i hi
      · show upd (upd S.2.2.1 b _) b _ b' = _
        rw [upd_upd, upd_ne hbb]
        exact a.2.2.2.2.2.1
