theorem MR.cg {f f' : Nat → Int32} {w : WS} (h : MR f w) (hp : w.p ≤ 97) (ho : ∀ j, j < 641 → f' j = f j) : MR f' w := by
  obtain ⟨⟨a, b, c, d, e⟩, k, gr, ml⟩ := h
  refine ⟨⟨(ho _ (by omega)).trans a, (ho _ (by omega)).trans b, (ho _ (by omega)).trans c, (ho _ (by omega)).trans d, (ho _ (by omega)).trans e⟩, fun j hj => ⟨(ho _ (by omega)).trans (k j hj).1, (ho _ (by omega)).trans (k j hj).2⟩, fun g hg => ?_, ml.out (fun i x y => ho i (by omega))⟩
  obtain ⟨p, q, r⟩ := gr g hg
  exact ⟨fun b hb => (ho _ (by omega)).trans (p b hb), (ho _ (by omega)).trans q, fun z s hs => (ho _ (by omega)).trans (r z s hs)⟩
theorem MR.eq {f : Nat → Int32} {w0 w : WS} (hE : wEq w0 w) (h : MR f w) (hp : w.p ≤ 97) : MR f w0 := by
  obtain ⟨e1, e2, e3, e4, e5, e6, e7⟩ := hE
  obtain ⟨⟨a, b, c, d, e⟩, k, gr, ml⟩ := h
  refine ⟨⟨by rw [e3]; exact a, by rw [e4]; exact b, by rw [e5]; exact c, by rw [e6]; exact d, by rw [e7]; exact e⟩, fun j hj => ⟨(k j hj).1.trans (e1 j hj).1.symm, (k j hj).2.trans (e1 j hj).2.symm⟩, fun g hg => ?_, ml.cg (fun g hg => by show (w.gs g).2.2.2 = (w0.gs g).2.2.2; rw [(e2 g hg).2.2])⟩
  obtain ⟨p, q, r⟩ := gr g hg
  obtain ⟨x, y, z⟩ := e2 g hg
  refine ⟨fun b hb => (p b hb).trans (x b hb).symm, by rw [z]; exact q, fun u s hs => ?_⟩
  rw [e3] at hs
  rw [z] at u
  exact (r u s hs).trans (y s (by omega)).symm
theorem cIn.eq {w0 w : WS} {t a r : Nat} (hE : wEq w0 w) (h : cIn w t a r) : cIn w0 t a r := by
  obtain ⟨e1, e2, e3, e4, e5, e6, e7⟩ := hE
  obtain ⟨hp, hn, hw, ha, hr, ⟨c1, c2, c3⟩, hg⟩ := h
  have hp2 := szN_rg _ hp
  refine ⟨by rw [e3]; exact hp, by rw [e4]; exact hn, fun b hb => ?_, ha, hr, ⟨by rw [e5]; exact c1, by rw [e7]; exact c2, by rw [e6]; exact c3⟩, fun g hg' => ?_⟩
  · rw [e4] at hb
    obtain ⟨k, k1, k2, k3⟩ := hw b hb
    exact ⟨k, k1, k2, (e1 b (by omega)).2.trans k3⟩
  · obtain ⟨x, y, z⟩ := e2 g hg'
    obtain ⟨g1, g2, g3, g4, g5, g6⟩ := hg g hg'
    rw [e3, e4]
    refine ⟨fun b hb hb8 => (x b hb8).trans (g1 b hb hb8), by rw [z]; exact g2, fun u => ?_, by rw [z]; exact g4, by rw [z]; exact g5, by rw [z]; exact g6⟩
    rw [z] at u
    exact (g3 u).cg (fun s hs => y s (by omega))
theorem n_tell {G : SG} {d T vb : Nat} {h : AH} {s : CS} {w0 : WS} {nm : Nat → Int32} (hM : RM h s T) (hE : wEq w0 s.1) (hTT : T + 400000 < 2 ^ 30) : SW G mX9_tell (d + 11) 0 0 0 [.ref 75, .retAddr 0, .retAddr 0] [] h (fun r h' => SameD h h' ∧ (((tlF s.2.1 s.2.2.1 400 (w0, 0, advK s.2.1 s.2.2.1 (0, 0, 0), vb, nm, 0)).2.2.2.2.2 = 0 ∧ r = some (.int (nI (tlF s.2.1 s.2.2.1 400 (w0, 0, advK s.2.1 s.2.2.1 (0, 0, 0), vb, nm, 0)).2.1)) ∧ RM h' ((tlF s.2.1 s.2.2.1 400 (w0, 0, advK s.2.1 s.2.2.1 (0, 0, 0), vb, nm, 0)).1, s.2.1, 0, 0) (T + 400000)) ∨ (¬ (tlF s.2.1 s.2.2.1 400 (w0, 0, advK s.2.1 s.2.2.1 (0, 0, 0), vb, nm, 0)).2.2.2.2.2 = 0 ∧ r = some (.int (-1)) ∧ RM h' (s.1, s.2.1, 0, (tlF s.2.1 s.2.2.1 400 (w0, 0, advK s.2.1 s.2.2.1 (0, 0, 0), vb, nm, 0)).2.2.2.2.2) T))) := by
  obtain ⟨v, f, tp, H⟩ := hM
  have h5 := H.1.1
  refine sw_aload_n dX9_tell_0 rfl ?_
  refine sw_iconst (v := 0) dX9_tell_1 (by decide) ?_
  refine sw_puti dX9_tell_2 fl_X9_35 (h5) (Nat.le_of_ble_eq_true rfl) (fun g0 z0 e0 o0 => ?_)
  obtain ⟨H, D0⟩ := H.ra e0 z0 o0
  obtain ⟨⟨h5, h6, ⟨u0, h77⟩, hS, h83⟩, hR, ⟨t, a, r, htT, hC⟩, ⟨ev, ef⟩, hn, htp⟩ := id H
  have hp := szN_rg _ hC.1
  clear h e0 z0 o0 D0
  sorry
