/-! the law's cases -/
def LV (h : AH) (s : CS) (T : Nat) : Prop := CA h s ∧ RM h s T ∧ h.length = 85 ∧ ∃ f : Nat → Int64, h[84]? = some (.inl (2, 1, .inr (.inl f)))
theorem RM.K {h h' : AH} {s : CS} {T : Nat} (H : RM h s T) (x : ∀ j, 75 ≤ j → j < 84 → h'[j]? = h[j]?) : RM h' s T := by
  obtain ⟨v, f, tp, ⟨h5, h6, ⟨t, h7⟩, hS, h83⟩, rest⟩ := H
  exact ⟨v, f, tp, ⟨(x 75 (by omega) (by omega)).trans h5, (x 76 (by omega) (by omega)).trans h6, ⟨t, (x 77 (by omega) (by omega)).trans h7⟩, hS.kept (fun j a b => x j (by omega) (by omega)), (x 83 (by omega) (by omega)).trans h83⟩, rest⟩
theorem RM.C {h h' : AH} {s : CS} {T : Nat} (H : RM h s T) (x : SameC h h') : RM h' s T := H.K (fun j a _ => x.2 j a)
theorem RM.mono {h : AH} {s : CS} {T T' : Nat} (H : RM h s T) (hT : T ≤ T') : RM h s T' := by
  obtain ⟨v, f, tp, a, b, ⟨t, q, r, ht, hc⟩, rest⟩ := H
  exact ⟨v, f, tp, a, b, ⟨t, q, r, by omega, hc⟩, rest⟩
theorem RM.ok {h : AH} {s : CS} {T : Nat} (H : RM h s T) : wOk s.1 ∧ kpOk s.1 ∧ s.1.p ∈ szN := by
  obtain ⟨v, f, tp, a, b, ⟨t, q, r, ht, hc⟩, rest⟩ := H
  exact ⟨hc.wOk, hc.kp, hc.1⟩
theorem CA.K {h h' : AH} {s : CS} (H : CA h s) (x : ∀ j, j < 75 → h'[j]? = h[j]?) : CA h' s := by
  obtain ⟨b, q, vb, K, nm, hbq, h0, hW, hQ, hT, hL, hB⟩ := H
  exact ⟨b, q, vb, K, nm, hbq, (x 0 (by omega)).trans h0, hW.kept (fun j y z => x j (by omega)), hQ.kept (fun j y z => x j (by omega)), hT.kept (fun j y z => x j (by omega)), hL.kept (x 73 (by omega)) (x 74 (by omega)), hB.kept (fun j y z => x j (by omega))⟩
theorem CA.D {h h' : AH} {s : CS} (H : CA h s) (x : SameD h h') : CA h' s := H.K (fun j hj => x.2 j (Or.inl hj))
theorem rc_ca {h : AH} {s : CS} (H : CA h s) : rc_ok h RX8 0 := by
  obtain ⟨b, q, vb, K, nm, hbq, h0, -⟩ := H
  exact rc_of h0 rfl
theorem rc_rm {h : AH} {s : CS} {T : Nat} (H : RM h s T) : rc_ok h RX9 75 := by
  obtain ⟨v, f, tp, ⟨h5, -⟩, -⟩ := H
  exact rc_of h5 rfl
theorem LV.step {h g1 g2 : AH} {s s' : CS} {T T' : Nat} (H : LV h s T) (hC : CA g1 s') (h1 : SameC h g1) (hM : RM g2 s' T') (h2 : SameD g1 g2) : LV g2 s' T' := by
  obtain ⟨-, -, hl, f, h84⟩ := H
  exact ⟨hC.D h2, hM, h2.1.trans (h1.1.trans hl), f, (h2.2 84 (by omega)).trans ((h1.2 84 (by omega)).trans h84)⟩
theorem sw_arg {G : SG} {d bc bs j k pc : Nat} {L st : List Value} {h : AH} {P : Option Value → AH → Prop} (hx : sg_ad G 1999 = (sg_x G).1) (hj : j + 6 ≤ (sg_x G).2.1) (hN : (sg_x G).2.1 ≤ 3072) (h0 : L[0]? = some (.ref 1999)) (h4 : L[4]? = some (.int (nI j))) {n : Int}
    (d0 : decode mL_law.2.1 pc = .ok (.aload_n 0, 1)) (d1 : decode mL_law.2.1 (pc + 1) = .ok (.iload 4, 2)) (d3 : decode mL_law.2.1 (pc + 3) = .ok (.iconst n, 1)) (hk : Int32.ofInt n = nI k) (d4 : decode mL_law.2.1 (pc + 4) = .ok (.iadd, 1)) (d5 : decode mL_law.2.1 (pc + 5) = .ok (.iaload, 1)) (hk5 : k ≤ 5)
    (kk : SW G mL_law d bc bs (pc + 6) L (.int ((sg_x G).2.2 (j + k)) :: st) h P) : SW G mL_law d bc bs pc L st h P := by
  refine sw_aload_n d0 h0 ?_
  refine sw_iload (pc := pc + 1) d1 h4 ?_
  refine sw_iconst (pc := pc + 3) d3 hk ?_
  refine sw_iadd (pc := pc + 4) d4 ?_
  rw [nI_add]
  refine sw_sld (pc := pc + 5) d5 hx (vp_in_nI (by omega) (by omega)) ?_
  rw [nI_clamp (by omega)]
  exact kk
theorem law_0 {G : SG} {bc bs j T : Nat} {v5 v6 : Value} {h : AH} {s : CS} {P : Option Value → AH → Prop} (hal : sg_al G = false) (hx : sg_ad G 1999 = (sg_x G).1) (hj : j + 6 ≤ (sg_x G).2.1) (hN : (sg_x G).2.1 ≤ 3072) (hV : LV h s T) (hT : T + 400000 < 2 ^ 29) (next : ∀ h' s', LV h' s' (T + 400000) → SW G mL_law 13 bc bs 1261 [.ref 1999, .ref 0, .ref 75, .ref 84, .int (nI j), v5, v6] [] h' P) : SW G mL_law 13 bc bs 176 [.ref 1999, .ref 0, .ref 75, .ref 84, .int (nI j), v5, v6] [] h P := by
  obtain ⟨hC, hM, hl, h84⟩ := id hV
  obtain ⟨hI, hK, hp⟩ := hM.ok
  refine sw_aload_n dL_law_176 rfl ?_
  refine sw_arg (k := 1) hx hj hN rfl rfl dL_law_177 dL_law_178 dL_law_180 (by decide) dL_law_181 dL_law_182 (by decide) ?_
  refine sw_arg (k := 2) hx hj hN rfl rfl dL_law_183 dL_law_184 dL_law_186 (by decide) dL_law_187 dL_law_188 (by decide) ?_
  refine sw_arg (k := 3) hx hj hN rfl rfl dL_law_189 dL_law_190 dL_law_192 (by decide) dL_law_193 dL_law_194 (by decide) ?_
  refine sw_arg (k := 4) hx hj hN rfl rfl dL_law_195 dL_law_196 dL_law_198 (by decide) dL_law_199 dL_law_200 (by decide) ?_
  refine sw_arg (k := 5) hx hj hN rfl rfl dL_law_201 dL_law_202 dL_law_204 (by decide) dL_law_205 dL_law_206 (by decide) ?_
  refine sw_gv5 dL_law_207 cv_L_19 (rc_ca hC) (k_feed hC) (fun r g1 hr => ?_)
  obtain ⟨rfl, hC1, hS1⟩ := hr
  have hM1 := hM.C hS1
  refine sw_aload_n dL_law_210 rfl ?_
  refine sw_arg (k := 1) hx hj hN rfl rfl dL_law_211 dL_law_212 dL_law_214 (by decide) dL_law_215 dL_law_216 (by decide) ?_
  refine sw_arg (k := 2) hx hj hN rfl rfl dL_law_217 dL_law_218 dL_law_220 (by decide) dL_law_221 dL_law_222 (by decide) ?_
  refine sw_arg (k := 3) hx hj hN rfl rfl dL_law_223 dL_law_224 dL_law_226 (by decide) dL_law_227 dL_law_228 (by decide) ?_
  refine sw_arg (k := 4) hx hj hN rfl rfl dL_law_229 dL_law_230 dL_law_232 (by decide) dL_law_233 dL_law_234 (by decide) ?_
  refine sw_arg (k := 5) hx hj hN rfl rfl dL_law_235 dL_law_236 dL_law_238 (by decide) dL_law_239 dL_law_240 (by decide) ?_
  refine sw_gv5 dL_law_241 cv_L_23 (rc_rm hM1) (n_feed hM1) (fun r g2 hr => ?_)
  obtain ⟨rfl, hM2, hS2⟩ := hr
  refine sw_cmpeq (tgt := 1261) dL_law_244 (by decide) (fun _ => ?_) (fun q => absurd rfl q)
  exact next g2 _ (hV.step hC1 hS1 (hM2.mono (by omega)) hS2)
theorem law_1 {G : SG} {bc bs j T : Nat} {v5 v6 : Value} {h : AH} {s : CS} {P : Option Value → AH → Prop} (hal : sg_al G = false) (hx : sg_ad G 1999 = (sg_x G).1) (hj : j + 6 ≤ (sg_x G).2.1) (hN : (sg_x G).2.1 ≤ 3072) (hV : LV h s T) (hT : T + 400000 < 2 ^ 29) (next : ∀ h' s', LV h' s' (T + 400000) → SW G mL_law 13 bc bs 1261 [.ref 1999, .ref 0, .ref 75, .ref 84, .int (nI j), v5, v6] [] h' P) : SW G mL_law 13 bc bs 249 [.ref 1999, .ref 0, .ref 75, .ref 84, .int (nI j), v5, v6] [] h P := by
  obtain ⟨hC, hM, hl, h84⟩ := id hV
  obtain ⟨hI, hK, hp⟩ := hM.ok
  refine sw_aload_n dL_law_249 rfl ?_
  refine sw_arg (k := 1) hx hj hN rfl rfl dL_law_250 dL_law_251 dL_law_253 (by decide) dL_law_254 dL_law_255 (by decide) ?_
  refine sw_gv1 dL_law_256 cv_L_24 (rc_ca hC) (k_end hC) (fun r g1 hr => ?_)
  obtain ⟨rfl, hC1, hS1⟩ := hr
  have hM1 := hM.C hS1
  refine sw_aload_n dL_law_259 rfl ?_
  refine sw_arg (k := 1) hx hj hN rfl rfl dL_law_260 dL_law_261 dL_law_263 (by decide) dL_law_264 dL_law_265 (by decide) ?_
  refine sw_gv1 dL_law_266 cv_L_28 (rc_rm hM1) (n_end hM1) (fun r g2 hr => ?_)
  obtain ⟨rfl, hM2, hS2⟩ := hr
  refine sw_cmpeq (tgt := 1261) dL_law_269 (by decide) (fun _ => ?_) (fun q => absurd rfl q)
  exact next g2 _ (hV.step hC1 hS1 (hM2.mono (by omega)) hS2)
theorem law_3 {G : SG} {bc bs j T : Nat} {v5 v6 : Value} {h : AH} {s : CS} {P : Option Value → AH → Prop} (hal : sg_al G = false) (hx : sg_ad G 1999 = (sg_x G).1) (hj : j + 6 ≤ (sg_x G).2.1) (hN : (sg_x G).2.1 ≤ 3072) (hV : LV h s T) (hT : T + 400000 < 2 ^ 29) (next : ∀ h' s', LV h' s' (T + 400000) → SW G mL_law 13 bc bs 1261 [.ref 1999, .ref 0, .ref 75, .ref 84, .int (nI j), v5, v6] [] h' P) : SW G mL_law 13 bc bs 287 [.ref 1999, .ref 0, .ref 75, .ref 84, .int (nI j), v5, v6] [] h P := by
  obtain ⟨hC, hM, hl, h84⟩ := id hV
  obtain ⟨hI, hK, hp⟩ := hM.ok
  refine sw_aload_n dL_law_287 rfl ?_
  refine sw_gv0 dL_law_288 cv_L_34 (rc_ca hC) (k_fault hC) (fun r g1 hr => ?_)
  obtain ⟨rfl, rfl⟩ := hr
  have hC1 := hC
  have hS1 : SameC g1 g1 := SameC.rf
  have hM1 := hM.C hS1
  refine sw_aload_n dL_law_291 rfl ?_
  refine sw_gv0 dL_law_292 cv_L_37 (rc_rm hM1) (n_fault hM1) (fun r g2 hr => ?_)
  obtain ⟨rfl, hM2, hS2⟩ := hr
  refine sw_cmpeq (tgt := 1261) dL_law_295 (by decide) (fun _ => ?_) (fun q => absurd rfl q)
  exact next g2 _ (hV.step hC1 hS1 (hM2.mono (by omega)) hS2)
theorem law_4 {G : SG} {bc bs j T : Nat} {v5 v6 : Value} {h : AH} {s : CS} {P : Option Value → AH → Prop} (hal : sg_al G = false) (hx : sg_ad G 1999 = (sg_x G).1) (hj : j + 6 ≤ (sg_x G).2.1) (hN : (sg_x G).2.1 ≤ 3072) (hV : LV h s T) (hT : T + 400000 < 2 ^ 29) (next : ∀ h' s', LV h' s' (T + 400000) → SW G mL_law 13 bc bs 1261 [.ref 1999, .ref 0, .ref 75, .ref 84, .int (nI j), v5, v6] [] h' P) : SW G mL_law 13 bc bs 300 [.ref 1999, .ref 0, .ref 75, .ref 84, .int (nI j), v5, v6] [] h P := by
  obtain ⟨hC, hM, hl, h84⟩ := id hV
  obtain ⟨hI, hK, hp⟩ := hM.ok
  refine sw_aload_n dL_law_300 rfl ?_
  refine sw_arg (k := 1) hx hj hN rfl rfl dL_law_301 dL_law_302 dL_law_304 (by decide) dL_law_305 dL_law_306 (by decide) ?_
  refine sw_gv1 dL_law_307 cv_L_38 (rc_ca hC) (k_size hC) (fun r g1 hr => ?_)
  obtain ⟨rfl, hC1, hS1⟩ := hr
  have hM1 := hM.C hS1
  refine sw_aload_n dL_law_310 rfl ?_
  refine sw_arg (k := 1) hx hj hN rfl rfl dL_law_311 dL_law_312 dL_law_314 (by decide) dL_law_315 dL_law_316 (by decide) ?_
  refine sw_gv1 dL_law_317 cv_L_41 (rc_rm hM1) (n_size hM1) (fun r g2 hr => ?_)
  obtain ⟨rfl, hM2, hS2⟩ := hr
  refine sw_cmpeq (tgt := 1261) dL_law_320 (by decide) (fun _ => ?_) (fun q => absurd rfl q)
  exact next g2 _ (hV.step hC1 hS1 (hM2.mono (by omega)) hS2)
theorem law_5 {G : SG} {bc bs j T : Nat} {v5 v6 : Value} {h : AH} {s : CS} {P : Option Value → AH → Prop} (hal : sg_al G = false) (hx : sg_ad G 1999 = (sg_x G).1) (hj : j + 6 ≤ (sg_x G).2.1) (hN : (sg_x G).2.1 ≤ 3072) (hV : LV h s T) (hT : T + 400000 < 2 ^ 29) (next : ∀ h' s', LV h' s' (T + 400000) → SW G mL_law 13 bc bs 1261 [.ref 1999, .ref 0, .ref 75, .ref 84, .int (nI j), v5, v6] [] h' P) : SW G mL_law 13 bc bs 325 [.ref 1999, .ref 0, .ref 75, .ref 84, .int (nI j), v5, v6] [] h P := by
  obtain ⟨hC, hM, hl, h84⟩ := id hV
  obtain ⟨hI, hK, hp⟩ := hM.ok
  refine sw_aload_n dL_law_325 rfl ?_
  refine sw_arg (k := 1) hx hj hN rfl rfl dL_law_326 dL_law_327 dL_law_329 (by decide) dL_law_330 dL_law_331 (by decide) ?_
  refine sw_arg (k := 2) hx hj hN rfl rfl dL_law_332 dL_law_333 dL_law_335 (by decide) dL_law_336 dL_law_337 (by decide) ?_
  refine sw_gv2 dL_law_338 cv_L_42 (rc_ca hC) (k_back hC) (fun r g1 hr => ?_)
  obtain ⟨rfl, hC1, hS1⟩ := hr
  have hM1 := hM.C hS1
  refine sw_aload_n dL_law_341 rfl ?_
  refine sw_arg (k := 1) hx hj hN rfl rfl dL_law_342 dL_law_343 dL_law_345 (by decide) dL_law_346 dL_law_347 (by decide) ?_
  refine sw_arg (k := 2) hx hj hN rfl rfl dL_law_348 dL_law_349 dL_law_351 (by decide) dL_law_352 dL_law_353 (by decide) ?_
  refine sw_gv2 dL_law_354 cv_L_45 (rc_rm hM1) (n_back hM1) (fun r g2 hr => ?_)
  obtain ⟨rfl, hM2, hS2⟩ := hr
  refine sw_cmpeq (tgt := 1261) dL_law_357 (by decide) (fun _ => ?_) (fun q => absurd rfl q)
  exact next g2 _ (hV.step hC1 hS1 (hM2.mono (by omega)) hS2)
theorem law_6 {G : SG} {bc bs j T : Nat} {v5 v6 : Value} {h : AH} {s : CS} {P : Option Value → AH → Prop} (hal : sg_al G = false) (hx : sg_ad G 1999 = (sg_x G).1) (hj : j + 6 ≤ (sg_x G).2.1) (hN : (sg_x G).2.1 ≤ 3072) (hV : LV h s T) (hT : T + 400000 < 2 ^ 29) (next : ∀ h' s', LV h' s' (T + 400000) → SW G mL_law 13 bc bs 1261 [.ref 1999, .ref 0, .ref 75, .ref 84, .int (nI j), v5, v6] [] h' P) : SW G mL_law 13 bc bs 362 [.ref 1999, .ref 0, .ref 75, .ref 84, .int (nI j), v5, v6] [] h P := by
  obtain ⟨hC, hM, hl, h84⟩ := id hV
  obtain ⟨hI, hK, hp⟩ := hM.ok
  refine sw_aload_n dL_law_362 rfl ?_
  refine sw_arg (k := 1) hx hj hN rfl rfl dL_law_363 dL_law_364 dL_law_366 (by decide) dL_law_367 dL_law_368 (by decide) ?_
  refine sw_arg (k := 2) hx hj hN rfl rfl dL_law_369 dL_law_370 dL_law_372 (by decide) dL_law_373 dL_law_374 (by decide) ?_
  refine sw_gv2 dL_law_375 cv_L_46 (rc_ca hC) (k_weigh hC) (fun r g1 hr => ?_)
  obtain ⟨rfl, hC1, hS1⟩ := hr
  have hM1 := hM.C hS1
  refine sw_aload_n dL_law_378 rfl ?_
  refine sw_arg (k := 1) hx hj hN rfl rfl dL_law_379 dL_law_380 dL_law_382 (by decide) dL_law_383 dL_law_384 (by decide) ?_
  refine sw_arg (k := 2) hx hj hN rfl rfl dL_law_385 dL_law_386 dL_law_388 (by decide) dL_law_389 dL_law_390 (by decide) ?_
  refine sw_gv2 dL_law_391 cv_L_50 (rc_rm hM1) (n_weigh hM1) (fun r g2 hr => ?_)
  obtain ⟨rfl, hM2, hS2⟩ := hr
  refine sw_cmpeq (tgt := 1261) dL_law_394 (by decide) (fun _ => ?_) (fun q => absurd rfl q)
  exact next g2 _ (hV.step hC1 hS1 (hM2.mono (by omega)) hS2)
theorem law_7 {G : SG} {bc bs j T : Nat} {v5 v6 : Value} {h : AH} {s : CS} {P : Option Value → AH → Prop} (hal : sg_al G = false) (hx : sg_ad G 1999 = (sg_x G).1) (hj : j + 6 ≤ (sg_x G).2.1) (hN : (sg_x G).2.1 ≤ 3072) (hV : LV h s T) (hT : T + 400000 < 2 ^ 29) (next : ∀ h' s', LV h' s' (T + 400000) → SW G mL_law 13 bc bs 1261 [.ref 1999, .ref 0, .ref 75, .ref 84, .int (nI j), v5, v6] [] h' P) : SW G mL_law 13 bc bs 399 [.ref 1999, .ref 0, .ref 75, .ref 84, .int (nI j), v5, v6] [] h P := by
  obtain ⟨hC, hM, hl, h84⟩ := id hV
  obtain ⟨hI, hK, hp⟩ := hM.ok
  refine sw_aload_n dL_law_399 rfl ?_
  refine sw_arg (k := 1) hx hj hN rfl rfl dL_law_400 dL_law_401 dL_law_403 (by decide) dL_law_404 dL_law_405 (by decide) ?_
  refine sw_arg (k := 2) hx hj hN rfl rfl dL_law_406 dL_law_407 dL_law_409 (by decide) dL_law_410 dL_law_411 (by decide) ?_
  refine sw_arg (k := 3) hx hj hN rfl rfl dL_law_412 dL_law_413 dL_law_415 (by decide) dL_law_416 dL_law_417 (by decide) ?_
  refine sw_gv3 dL_law_418 cv_L_51 (rc_ca hC) (k_see hC) (fun r g1 hr => ?_)
  obtain ⟨rfl, hC1, hS1⟩ := hr
  have hM1 := hM.C hS1
  refine sw_aload_n dL_law_421 rfl ?_
  refine sw_arg (k := 1) hx hj hN rfl rfl dL_law_422 dL_law_423 dL_law_425 (by decide) dL_law_426 dL_law_427 (by decide) ?_
  refine sw_arg (k := 2) hx hj hN rfl rfl dL_law_428 dL_law_429 dL_law_431 (by decide) dL_law_432 dL_law_433 (by decide) ?_
  refine sw_arg (k := 3) hx hj hN rfl rfl dL_law_434 dL_law_435 dL_law_437 (by decide) dL_law_438 dL_law_439 (by decide) ?_
  refine sw_gv3 dL_law_440 cv_L_55 (rc_rm hM1) (n_see hM1) (fun r g2 hr => ?_)
  obtain ⟨rfl, hM2, hS2⟩ := hr
  refine sw_cmpeq (tgt := 1261) dL_law_443 (by decide) (fun _ => ?_) (fun q => absurd rfl q)
  exact next g2 _ (hV.step hC1 hS1 (hM2.mono (by omega)) hS2)
theorem law_8 {G : SG} {bc bs j T : Nat} {v5 v6 : Value} {h : AH} {s : CS} {P : Option Value → AH → Prop} (hal : sg_al G = false) (hx : sg_ad G 1999 = (sg_x G).1) (hj : j + 6 ≤ (sg_x G).2.1) (hN : (sg_x G).2.1 ≤ 3072) (hV : LV h s T) (hT : T + 400000 < 2 ^ 29) (next : ∀ h' s', LV h' s' (T + 400000) → SW G mL_law 13 bc bs 1261 [.ref 1999, .ref 0, .ref 75, .ref 84, .int (nI j), v5, v6] [] h' P) : SW G mL_law 13 bc bs 448 [.ref 1999, .ref 0, .ref 75, .ref 84, .int (nI j), v5, v6] [] h P := by
  obtain ⟨hC, hM, hl, h84⟩ := id hV
  obtain ⟨hI, hK, hp⟩ := hM.ok
  refine sw_aload_n dL_law_448 rfl ?_
  refine sw_arg (k := 1) hx hj hN rfl rfl dL_law_449 dL_law_450 dL_law_452 (by decide) dL_law_453 dL_law_454 (by decide) ?_
  refine sw_arg (k := 2) hx hj hN rfl rfl dL_law_455 dL_law_456 dL_law_458 (by decide) dL_law_459 dL_law_460 (by decide) ?_
  refine sw_gv2 dL_law_461 cv_L_56 (rc_ca hC) (k_set hC) (fun r g1 hr => ?_)
  obtain ⟨rfl, hC1, hS1⟩ := hr
  have hM1 := hM.C hS1
  refine sw_aload_n dL_law_464 rfl ?_
  refine sw_arg (k := 1) hx hj hN rfl rfl dL_law_465 dL_law_466 dL_law_468 (by decide) dL_law_469 dL_law_470 (by decide) ?_
  refine sw_arg (k := 2) hx hj hN rfl rfl dL_law_471 dL_law_472 dL_law_474 (by decide) dL_law_475 dL_law_476 (by decide) ?_
  refine sw_gv2 dL_law_477 cv_L_59 (rc_rm hM1) (n_set hM1 (by omega)) (fun r g2 hr => ?_)
  obtain ⟨rfl, hM2, hS2⟩ := hr
  refine sw_cmpeq (tgt := 1261) dL_law_480 (by decide) (fun _ => ?_) (fun q => absurd rfl q)
  exact next g2 _ (hV.step hC1 hS1 (hM2.mono (by omega)) hS2)
theorem law_9 {G : SG} {bc bs j T : Nat} {v5 v6 : Value} {h : AH} {s : CS} {P : Option Value → AH → Prop} (hal : sg_al G = false) (hx : sg_ad G 1999 = (sg_x G).1) (hj : j + 6 ≤ (sg_x G).2.1) (hN : (sg_x G).2.1 ≤ 3072) (hV : LV h s T) (hT : T + 400000 < 2 ^ 29) (next : ∀ h' s', LV h' s' (T + 400000) → SW G mL_law 13 bc bs 1261 [.ref 1999, .ref 0, .ref 75, .ref 84, .int (nI j), v5, v6] [] h' P) : SW G mL_law 13 bc bs 485 [.ref 1999, .ref 0, .ref 75, .ref 84, .int (nI j), v5, v6] [] h P := by
  obtain ⟨hC, hM, hl, h84⟩ := id hV
  obtain ⟨hI, hK, hp⟩ := hM.ok
  refine sw_aload_n dL_law_485 rfl ?_
  refine sw_arg (k := 1) hx hj hN rfl rfl dL_law_486 dL_law_487 dL_law_489 (by decide) dL_law_490 dL_law_491 (by decide) ?_
  refine sw_gv1 dL_law_492 cv_L_60 (rc_ca hC) (k_tick hC) (fun r g1 hr => ?_)
  obtain ⟨rfl, hC1, hS1⟩ := hr
  have hM1 := hM.C hS1
  refine sw_aload_n dL_law_495 rfl ?_
  refine sw_arg (k := 1) hx hj hN rfl rfl dL_law_496 dL_law_497 dL_law_499 (by decide) dL_law_500 dL_law_501 (by decide) ?_
  refine sw_gv1 dL_law_502 cv_L_64 (rc_rm hM1) (n_tick hM1 (by omega)) (fun r g2 hr => ?_)
  obtain ⟨rfl, hM2, hS2⟩ := hr
  refine sw_cmpeq (tgt := 1261) dL_law_505 (by decide) (fun _ => ?_) (fun q => absurd rfl q)
  exact next g2 _ (hV.step hC1 hS1 (hM2.mono (by omega)) hS2)
theorem law_10 {G : SG} {bc bs j T : Nat} {v5 v6 : Value} {h : AH} {s : CS} {P : Option Value → AH → Prop} (hal : sg_al G = false) (hx : sg_ad G 1999 = (sg_x G).1) (hj : j + 6 ≤ (sg_x G).2.1) (hN : (sg_x G).2.1 ≤ 3072) (hV : LV h s T) (hT : T + 400000 < 2 ^ 29) (next : ∀ h' s', LV h' s' (T + 400000) → SW G mL_law 13 bc bs 1261 [.ref 1999, .ref 0, .ref 75, .ref 84, .int (nI j), v5, v6] [] h' P) : SW G mL_law 13 bc bs 510 [.ref 1999, .ref 0, .ref 75, .ref 84, .int (nI j), v5, v6] [] h P := by
  obtain ⟨hC, hM, hl, h84⟩ := id hV
  obtain ⟨hI, hK, hp⟩ := hM.ok
  refine sw_aload_n dL_law_510 rfl ?_
  refine sw_arg (k := 1) hx hj hN rfl rfl dL_law_511 dL_law_512 dL_law_514 (by decide) dL_law_515 dL_law_516 (by decide) ?_
  refine sw_arg (k := 2) hx hj hN rfl rfl dL_law_517 dL_law_518 dL_law_520 (by decide) dL_law_521 dL_law_522 (by decide) ?_
  refine sw_gv2 dL_law_523 cv_L_65 (rc_ca hC) (k_pack hC hI) (fun r g1 hr => ?_)
  obtain ⟨rfl, hC1, hS1⟩ := hr
  have hM1 := hM.C hS1
  refine sw_aload_n dL_law_526 rfl ?_
  refine sw_arg (k := 1) hx hj hN rfl rfl dL_law_527 dL_law_528 dL_law_530 (by decide) dL_law_531 dL_law_532 (by decide) ?_
  refine sw_arg (k := 2) hx hj hN rfl rfl dL_law_533 dL_law_534 dL_law_536 (by decide) dL_law_537 dL_law_538 (by decide) ?_
  refine sw_gv2 dL_law_539 cv_L_68 (rc_rm hM1) (n_pack hM1) (fun r g2 hr => ?_)
  obtain ⟨rfl, hM2, hS2⟩ := hr
  refine sw_cmpeq (tgt := 1261) dL_law_542 (by decide) (fun _ => ?_) (fun q => absurd rfl q)
  exact next g2 _ (hV.step hC1 hS1 (hM2.mono (by omega)) hS2)
theorem law_12 {G : SG} {bc bs j T : Nat} {v5 v6 : Value} {h : AH} {s : CS} {P : Option Value → AH → Prop} (hal : sg_al G = false) (hx : sg_ad G 1999 = (sg_x G).1) (hj : j + 6 ≤ (sg_x G).2.1) (hN : (sg_x G).2.1 ≤ 3072) (hV : LV h s T) (hT : T + 400000 < 2 ^ 29) (next : ∀ h' s', LV h' s' (T + 400000) → SW G mL_law 13 bc bs 1261 [.ref 1999, .ref 0, .ref 75, .ref 84, .int (nI j), v5, v6] [] h' P) : SW G mL_law 13 bc bs 572 [.ref 1999, .ref 0, .ref 75, .ref 84, .int (nI j), v5, v6] [] h P := by
  obtain ⟨hC, hM, hl, h84⟩ := id hV
  obtain ⟨hI, hK, hp⟩ := hM.ok
  refine sw_aload_n dL_law_572 rfl ?_
  refine sw_arg (k := 1) hx hj hN rfl rfl dL_law_573 dL_law_574 dL_law_576 (by decide) dL_law_577 dL_law_578 (by decide) ?_
  refine sw_gv1 dL_law_579 cv_L_73 (rc_ca hC) (k_count hC) (fun r g1 hr => ?_)
  obtain ⟨rfl, rfl⟩ := hr
  have hC1 := hC
  have hS1 : SameC g1 g1 := SameC.rf
  have hM1 := hM.C hS1
  refine sw_aload_n dL_law_582 rfl ?_
  refine sw_arg (k := 1) hx hj hN rfl rfl dL_law_583 dL_law_584 dL_law_586 (by decide) dL_law_587 dL_law_588 (by decide) ?_
  refine sw_gv1 dL_law_589 cv_L_76 (rc_rm hM1) (n_count hM1) (fun r g2 hr => ?_)
  obtain ⟨rfl, hM2, hS2⟩ := hr
  refine sw_cmpeq (tgt := 1261) dL_law_592 (by decide) (fun _ => ?_) (fun q => absurd rfl q)
  exact next g2 _ (hV.step hC1 hS1 (hM2.mono (by omega)) hS2)
theorem law_14 {G : SG} {bc bs j T : Nat} {v5 v6 : Value} {h : AH} {s : CS} {P : Option Value → AH → Prop} (hal : sg_al G = false) (hx : sg_ad G 1999 = (sg_x G).1) (hj : j + 6 ≤ (sg_x G).2.1) (hN : (sg_x G).2.1 ≤ 3072) (hV : LV h s T) (hT : T + 400000 < 2 ^ 29) (next : ∀ h' s', LV h' s' (T + 400000) → SW G mL_law 13 bc bs 1261 [.ref 1999, .ref 0, .ref 75, .ref 84, .int (nI j), v5, v6] [] h' P) : SW G mL_law 13 bc bs 665 [.ref 1999, .ref 0, .ref 75, .ref 84, .int (nI j), v5, v6] [] h P := by
  obtain ⟨hC, hM, hl, h84⟩ := id hV
  obtain ⟨hI, hK, hp⟩ := hM.ok
  refine sw_aload_n dL_law_665 rfl ?_
  refine sw_arg (k := 1) hx hj hN rfl rfl dL_law_666 dL_law_667 dL_law_669 (by decide) dL_law_670 dL_law_671 (by decide) ?_
  refine sw_arg (k := 2) hx hj hN rfl rfl dL_law_672 dL_law_673 dL_law_675 (by decide) dL_law_676 dL_law_677 (by decide) ?_
  refine sw_gv2 dL_law_678 cv_L_86 (rc_ca hC) (k_slot hC) (fun r g1 hr => ?_)
  obtain ⟨rfl, rfl⟩ := hr
  have hC1 := hC
  have hS1 : SameC g1 g1 := SameC.rf
  have hM1 := hM.C hS1
  refine sw_aload_n dL_law_681 rfl ?_
  refine sw_arg (k := 1) hx hj hN rfl rfl dL_law_682 dL_law_683 dL_law_685 (by decide) dL_law_686 dL_law_687 (by decide) ?_
  refine sw_arg (k := 2) hx hj hN rfl rfl dL_law_688 dL_law_689 dL_law_691 (by decide) dL_law_692 dL_law_693 (by decide) ?_
  refine sw_gv2 dL_law_694 cv_L_89 (rc_rm hM1) (n_slot hM1) (fun r g2 hr => ?_)
  obtain ⟨rfl, hM2, hS2⟩ := hr
  refine sw_cmpeq (tgt := 1261) dL_law_697 (by decide) (fun _ => ?_) (fun q => absurd rfl q)
  exact next g2 _ (hV.step hC1 hS1 (hM2.mono (by omega)) hS2)
theorem law_15 {G : SG} {bc bs j T : Nat} {v5 v6 : Value} {h : AH} {s : CS} {P : Option Value → AH → Prop} (hal : sg_al G = false) (hx : sg_ad G 1999 = (sg_x G).1) (hj : j + 6 ≤ (sg_x G).2.1) (hN : (sg_x G).2.1 ≤ 3072) (hV : LV h s T) (hT : T + 400000 < 2 ^ 29) (next : ∀ h' s', LV h' s' (T + 400000) → SW G mL_law 13 bc bs 1261 [.ref 1999, .ref 0, .ref 75, .ref 84, .int (nI j), v5, v6] [] h' P) : SW G mL_law 13 bc bs 702 [.ref 1999, .ref 0, .ref 75, .ref 84, .int (nI j), v5, v6] [] h P := by
  obtain ⟨hC, hM, hl, h84⟩ := id hV
  obtain ⟨hI, hK, hp⟩ := hM.ok
  refine sw_aload_n dL_law_702 rfl ?_
  refine sw_arg (k := 1) hx hj hN rfl rfl dL_law_703 dL_law_704 dL_law_706 (by decide) dL_law_707 dL_law_708 (by decide) ?_
  refine sw_arg (k := 2) hx hj hN rfl rfl dL_law_709 dL_law_710 dL_law_712 (by decide) dL_law_713 dL_law_714 (by decide) ?_
  refine sw_gv2 dL_law_715 cv_L_90 (rc_ca hC) (k_table hC hI) (fun r g1 hr => ?_)
  obtain ⟨rfl, hC1, hS1⟩ := hr
  have hM1 := hM.C hS1
  refine sw_aload_n dL_law_718 rfl ?_
  refine sw_arg (k := 1) hx hj hN rfl rfl dL_law_719 dL_law_720 dL_law_722 (by decide) dL_law_723 dL_law_724 (by decide) ?_
  refine sw_arg (k := 2) hx hj hN rfl rfl dL_law_725 dL_law_726 dL_law_728 (by decide) dL_law_729 dL_law_730 (by decide) ?_
  refine sw_gv2 dL_law_731 cv_L_93 (rc_rm hM1) (n_table hM1) (fun r g2 hr => ?_)
  obtain ⟨rfl, hM2, hS2⟩ := hr
  refine sw_cmpeq (tgt := 1261) dL_law_734 (by decide) (fun _ => ?_) (fun q => absurd rfl q)
  exact next g2 _ (hV.step hC1 hS1 (hM2.mono (by omega)) hS2)
theorem law_16 {G : SG} {bc bs j T : Nat} {v5 v6 : Value} {h : AH} {s : CS} {P : Option Value → AH → Prop} (hal : sg_al G = false) (hx : sg_ad G 1999 = (sg_x G).1) (hj : j + 6 ≤ (sg_x G).2.1) (hN : (sg_x G).2.1 ≤ 3072) (hV : LV h s T) (hT : T + 400000 < 2 ^ 29) (next : ∀ h' s', LV h' s' (T + 400000) → SW G mL_law 13 bc bs 1261 [.ref 1999, .ref 0, .ref 75, .ref 84, .int (nI j), v5, v6] [] h' P) : SW G mL_law 13 bc bs 739 [.ref 1999, .ref 0, .ref 75, .ref 84, .int (nI j), v5, v6] [] h P := by
  obtain ⟨hC, hM, hl, h84⟩ := id hV
  obtain ⟨hI, hK, hp⟩ := hM.ok
  refine sw_aload_n dL_law_739 rfl ?_
  refine sw_arg (k := 1) hx hj hN rfl rfl dL_law_740 dL_law_741 dL_law_743 (by decide) dL_law_744 dL_law_745 (by decide) ?_
  refine sw_arg (k := 2) hx hj hN rfl rfl dL_law_746 dL_law_747 dL_law_749 (by decide) dL_law_750 dL_law_751 (by decide) ?_
  refine sw_gv2 dL_law_752 cv_L_94 (rc_ca hC) (k_share hC hI) (fun r g1 hr => ?_)
  obtain ⟨rfl, hC1, hS1⟩ := hr
  have hM1 := hM.C hS1
  refine sw_aload_n dL_law_755 rfl ?_
  refine sw_arg (k := 1) hx hj hN rfl rfl dL_law_756 dL_law_757 dL_law_759 (by decide) dL_law_760 dL_law_761 (by decide) ?_
  refine sw_arg (k := 2) hx hj hN rfl rfl dL_law_762 dL_law_763 dL_law_765 (by decide) dL_law_766 dL_law_767 (by decide) ?_
  refine sw_gv2 dL_law_768 cv_L_97 (rc_rm hM1) (n_share hM1) (fun r g2 hr => ?_)
  obtain ⟨rfl, hM2, hS2⟩ := hr
  refine sw_cmpeq (tgt := 1261) dL_law_771 (by decide) (fun _ => ?_) (fun q => absurd rfl q)
  exact next g2 _ (hV.step hC1 hS1 (hM2.mono (by omega)) hS2)
theorem law_17 {G : SG} {bc bs j T : Nat} {v5 v6 : Value} {h : AH} {s : CS} {P : Option Value → AH → Prop} (hal : sg_al G = false) (hx : sg_ad G 1999 = (sg_x G).1) (hj : j + 6 ≤ (sg_x G).2.1) (hN : (sg_x G).2.1 ≤ 3072) (hV : LV h s T) (hT : T + 400000 < 2 ^ 29) (next : ∀ h' s', LV h' s' (T + 400000) → SW G mL_law 13 bc bs 1261 [.ref 1999, .ref 0, .ref 75, .ref 84, .int (nI j), v5, v6] [] h' P) : SW G mL_law 13 bc bs 776 [.ref 1999, .ref 0, .ref 75, .ref 84, .int (nI j), v5, v6] [] h P := by
  obtain ⟨hC, hM, hl, h84⟩ := id hV
  obtain ⟨hI, hK, hp⟩ := hM.ok
  refine sw_aload_n dL_law_776 rfl ?_
  refine sw_arg (k := 1) hx hj hN rfl rfl dL_law_777 dL_law_778 dL_law_780 (by decide) dL_law_781 dL_law_782 (by decide) ?_
  refine sw_arg (k := 2) hx hj hN rfl rfl dL_law_783 dL_law_784 dL_law_786 (by decide) dL_law_787 dL_law_788 (by decide) ?_
  refine sw_gv2 dL_law_789 cv_L_98 (rc_ca hC) (k_bits hC hI hp) (fun r g1 hr => ?_)
  obtain ⟨rfl, hC1, hS1⟩ := hr
  have hM1 := hM.C hS1
  refine sw_aload_n dL_law_792 rfl ?_
  refine sw_arg (k := 1) hx hj hN rfl rfl dL_law_793 dL_law_794 dL_law_796 (by decide) dL_law_797 dL_law_798 (by decide) ?_
  refine sw_arg (k := 2) hx hj hN rfl rfl dL_law_799 dL_law_800 dL_law_802 (by decide) dL_law_803 dL_law_804 (by decide) ?_
  refine sw_gv2 dL_law_805 cv_L_101 (rc_rm hM1) (n_shareBits hM1) (fun r g2 hr => ?_)
  obtain ⟨rfl, hM2, hS2⟩ := hr
  refine sw_cmpeq (tgt := 1261) dL_law_808 (by decide) (fun _ => ?_) (fun q => absurd rfl q)
  exact next g2 _ (hV.step hC1 hS1 (hM2.mono (by omega)) hS2)
theorem law_18 {G : SG} {bc bs j T : Nat} {v5 v6 : Value} {h : AH} {s : CS} {P : Option Value → AH → Prop} (hal : sg_al G = false) (hx : sg_ad G 1999 = (sg_x G).1) (hj : j + 6 ≤ (sg_x G).2.1) (hN : (sg_x G).2.1 ≤ 3072) (hV : LV h s T) (hT : T + 400000 < 2 ^ 29) (next : ∀ h' s', LV h' s' (T + 400000) → SW G mL_law 13 bc bs 1261 [.ref 1999, .ref 0, .ref 75, .ref 84, .int (nI j), v5, v6] [] h' P) : SW G mL_law 13 bc bs 813 [.ref 1999, .ref 0, .ref 75, .ref 84, .int (nI j), v5, v6] [] h P := by
  obtain ⟨hC, hM, hl, h84⟩ := id hV
  obtain ⟨hI, hK, hp⟩ := hM.ok
  refine sw_aload_n dL_law_813 rfl ?_
  refine sw_arg (k := 1) hx hj hN rfl rfl dL_law_814 dL_law_815 dL_law_817 (by decide) dL_law_818 dL_law_819 (by decide) ?_
  refine sw_gv1 dL_law_820 cv_L_102 (rc_ca hC) (k_uneven hC hI) (fun r g1 hr => ?_)
  obtain ⟨rfl, hC1, hS1⟩ := hr
  have hM1 := hM.C hS1
  refine sw_aload_n dL_law_823 rfl ?_
  refine sw_arg (k := 1) hx hj hN rfl rfl dL_law_824 dL_law_825 dL_law_827 (by decide) dL_law_828 dL_law_829 (by decide) ?_
  refine sw_gv1 dL_law_830 cv_L_105 (rc_rm hM1) (n_uneven hM1) (fun r g2 hr => ?_)
  obtain ⟨rfl, hM2, hS2⟩ := hr
  refine sw_cmpeq (tgt := 1261) dL_law_833 (by decide) (fun _ => ?_) (fun q => absurd rfl q)
  exact next g2 _ (hV.step hC1 hS1 (hM2.mono (by omega)) hS2)
theorem law_19 {G : SG} {bc bs j T : Nat} {v5 v6 : Value} {h : AH} {s : CS} {P : Option Value → AH → Prop} (hal : sg_al G = false) (hx : sg_ad G 1999 = (sg_x G).1) (hj : j + 6 ≤ (sg_x G).2.1) (hN : (sg_x G).2.1 ≤ 3072) (hV : LV h s T) (hT : T + 400000 < 2 ^ 29) (next : ∀ h' s', LV h' s' (T + 400000) → SW G mL_law 13 bc bs 1261 [.ref 1999, .ref 0, .ref 75, .ref 84, .int (nI j), v5, v6] [] h' P) : SW G mL_law 13 bc bs 838 [.ref 1999, .ref 0, .ref 75, .ref 84, .int (nI j), v5, v6] [] h P := by
  obtain ⟨hC, hM, hl, h84⟩ := id hV
  obtain ⟨hI, hK, hp⟩ := hM.ok
  refine sw_aload_n dL_law_838 rfl ?_
  refine sw_arg (k := 1) hx hj hN rfl rfl dL_law_839 dL_law_840 dL_law_842 (by decide) dL_law_843 dL_law_844 (by decide) ?_
  refine sw_gv1 dL_law_845 cv_L_106 (rc_ca hC) (k_evenest hC) (fun r g1 hr => ?_)
  obtain ⟨rfl, hC1, hS1⟩ := hr
  have hM1 := hM.C hS1
  refine sw_aload_n dL_law_848 rfl ?_
  refine sw_arg (k := 1) hx hj hN rfl rfl dL_law_849 dL_law_850 dL_law_852 (by decide) dL_law_853 dL_law_854 (by decide) ?_
  refine sw_gv1 dL_law_855 cv_L_109 (rc_rm hM1) (n_evenest hM1) (fun r g2 hr => ?_)
  obtain ⟨rfl, hM2, hS2⟩ := hr
  refine sw_cmpeq (tgt := 1261) dL_law_858 (by decide) (fun _ => ?_) (fun q => absurd rfl q)
  exact next g2 _ (hV.step hC1 hS1 (hM2.mono (by omega)) hS2)
theorem law_20 {G : SG} {bc bs j T : Nat} {v5 v6 : Value} {h : AH} {s : CS} {P : Option Value → AH → Prop} (hal : sg_al G = false) (hx : sg_ad G 1999 = (sg_x G).1) (hj : j + 6 ≤ (sg_x G).2.1) (hN : (sg_x G).2.1 ≤ 3072) (hV : LV h s T) (hT : T + 400000 < 2 ^ 29) (next : ∀ h' s', LV h' s' (T + 400000) → SW G mL_law 13 bc bs 1261 [.ref 1999, .ref 0, .ref 75, .ref 84, .int (nI j), v5, v6] [] h' P) : SW G mL_law 13 bc bs 863 [.ref 1999, .ref 0, .ref 75, .ref 84, .int (nI j), v5, v6] [] h P := by
  obtain ⟨hC, hM, hl, h84⟩ := id hV
  obtain ⟨hI, hK, hp⟩ := hM.ok
  refine sw_aload_n dL_law_863 rfl ?_
  refine sw_arg (k := 1) hx hj hN rfl rfl dL_law_864 dL_law_865 dL_law_867 (by decide) dL_law_868 dL_law_869 (by decide) ?_
  refine sw_arg (k := 2) hx hj hN rfl rfl dL_law_870 dL_law_871 dL_law_873 (by decide) dL_law_874 dL_law_875 (by decide) ?_
  refine sw_gv2 dL_law_876 cv_L_110 (rc_ca hC) (k_changed hC hI hK) (fun r g1 hr => ?_)
  obtain ⟨rfl, hC1, hS1⟩ := hr
  have hM1 := hM.C hS1
  refine sw_aload_n dL_law_879 rfl ?_
  refine sw_arg (k := 1) hx hj hN rfl rfl dL_law_880 dL_law_881 dL_law_883 (by decide) dL_law_884 dL_law_885 (by decide) ?_
  refine sw_arg (k := 2) hx hj hN rfl rfl dL_law_886 dL_law_887 dL_law_889 (by decide) dL_law_890 dL_law_891 (by decide) ?_
  refine sw_gv2 dL_law_892 cv_L_113 (rc_rm hM1) (n_changed hM1) (fun r g2 hr => ?_)
  obtain ⟨rfl, hM2, hS2⟩ := hr
  refine sw_cmpeq (tgt := 1261) dL_law_895 (by decide) (fun _ => ?_) (fun q => absurd rfl q)
  exact next g2 _ (hV.step hC1 hS1 (hM2.mono (by omega)) hS2)
theorem law_21 {G : SG} {bc bs j T : Nat} {v5 v6 : Value} {h : AH} {s : CS} {P : Option Value → AH → Prop} (hal : sg_al G = false) (hx : sg_ad G 1999 = (sg_x G).1) (hj : j + 6 ≤ (sg_x G).2.1) (hN : (sg_x G).2.1 ≤ 3072) (hV : LV h s T) (hT : T + 400000 < 2 ^ 29) (next : ∀ h' s', LV h' s' (T + 400000) → SW G mL_law 13 bc bs 1261 [.ref 1999, .ref 0, .ref 75, .ref 84, .int (nI j), v5, v6] [] h' P) : SW G mL_law 13 bc bs 900 [.ref 1999, .ref 0, .ref 75, .ref 84, .int (nI j), v5, v6] [] h P := by
  obtain ⟨hC, hM, hl, h84⟩ := id hV
  obtain ⟨hI, hK, hp⟩ := hM.ok
  refine sw_aload_n dL_law_900 rfl ?_
  refine sw_arg (k := 1) hx hj hN rfl rfl dL_law_901 dL_law_902 dL_law_904 (by decide) dL_law_905 dL_law_906 (by decide) ?_
  refine sw_arg (k := 2) hx hj hN rfl rfl dL_law_907 dL_law_908 dL_law_910 (by decide) dL_law_911 dL_law_912 (by decide) ?_
  refine sw_gv2 dL_law_913 cv_L_114 (rc_ca hC) (k_alike hC hI) (fun r g1 hr => ?_)
  obtain ⟨rfl, hC1, hS1⟩ := hr
  have hM1 := hM.C hS1
  refine sw_aload_n dL_law_916 rfl ?_
  refine sw_arg (k := 1) hx hj hN rfl rfl dL_law_917 dL_law_918 dL_law_920 (by decide) dL_law_921 dL_law_922 (by decide) ?_
  refine sw_arg (k := 2) hx hj hN rfl rfl dL_law_923 dL_law_924 dL_law_926 (by decide) dL_law_927 dL_law_928 (by decide) ?_
  refine sw_gv2 dL_law_929 cv_L_117 (rc_rm hM1) (n_alike hM1) (fun r g2 hr => ?_)
  obtain ⟨rfl, hM2, hS2⟩ := hr
  refine sw_cmpeq (tgt := 1261) dL_law_932 (by decide) (fun _ => ?_) (fun q => absurd rfl q)
  exact next g2 _ (hV.step hC1 hS1 (hM2.mono (by omega)) hS2)
theorem law_23 {G : SG} {bc bs j T : Nat} {v5 v6 : Value} {h : AH} {s : CS} {P : Option Value → AH → Prop} (hal : sg_al G = false) (hx : sg_ad G 1999 = (sg_x G).1) (hj : j + 6 ≤ (sg_x G).2.1) (hN : (sg_x G).2.1 ≤ 3072) (hV : LV h s T) (hT : T + 400000 < 2 ^ 29) (next : ∀ h' s', LV h' s' (T + 400000) → SW G mL_law 13 bc bs 1261 [.ref 1999, .ref 0, .ref 75, .ref 84, .int (nI j), v5, v6] [] h' P) : SW G mL_law 13 bc bs 1014 [.ref 1999, .ref 0, .ref 75, .ref 84, .int (nI j), v5, v6] [] h P := by
  obtain ⟨hC, hM, hl, h84⟩ := id hV
  obtain ⟨hI, hK, hp⟩ := hM.ok
  refine sw_aload_n dL_law_1014 rfl ?_
  refine sw_arg (k := 1) hx hj hN rfl rfl dL_law_1015 dL_law_1016 dL_law_1018 (by decide) dL_law_1019 dL_law_1020 (by decide) ?_
  refine sw_gv1 dL_law_1021 cv_L_123 (rc_ca hC) (k_rough hC hI) (fun r g1 hr => ?_)
  obtain ⟨rfl, hC1, hS1⟩ := hr
  have hM1 := hM.C hS1
  refine sw_aload_n dL_law_1024 rfl ?_
  refine sw_arg (k := 1) hx hj hN rfl rfl dL_law_1025 dL_law_1026 dL_law_1028 (by decide) dL_law_1029 dL_law_1030 (by decide) ?_
  refine sw_gv1 dL_law_1031 cv_L_126 (rc_rm hM1) (n_rough hM1) (fun r g2 hr => ?_)
  obtain ⟨rfl, hM2, hS2⟩ := hr
  refine sw_cmpeq (tgt := 1261) dL_law_1034 (by decide) (fun _ => ?_) (fun q => absurd rfl q)
  exact next g2 _ (hV.step hC1 hS1 (hM2.mono (by omega)) hS2)
theorem law_24 {G : SG} {bc bs j T : Nat} {v5 v6 : Value} {h : AH} {s : CS} {P : Option Value → AH → Prop} (hal : sg_al G = false) (hx : sg_ad G 1999 = (sg_x G).1) (hj : j + 6 ≤ (sg_x G).2.1) (hN : (sg_x G).2.1 ≤ 3072) (hV : LV h s T) (hT : T + 400000 < 2 ^ 29) (next : ∀ h' s', LV h' s' (T + 400000) → SW G mL_law 13 bc bs 1261 [.ref 1999, .ref 0, .ref 75, .ref 84, .int (nI j), v5, v6] [] h' P) : SW G mL_law 13 bc bs 1039 [.ref 1999, .ref 0, .ref 75, .ref 84, .int (nI j), v5, v6] [] h P := by
  obtain ⟨hC, hM, hl, h84⟩ := id hV
  obtain ⟨hI, hK, hp⟩ := hM.ok
  refine sw_aload_n dL_law_1039 rfl ?_
  refine sw_arg (k := 1) hx hj hN rfl rfl dL_law_1040 dL_law_1041 dL_law_1043 (by decide) dL_law_1044 dL_law_1045 (by decide) ?_
  refine sw_gv1 dL_law_1046 cv_L_127 (rc_ca hC) (k_flow hC) (fun r g1 hr => ?_)
  obtain ⟨rfl, rfl⟩ := hr
  have hC1 := hC
  have hS1 : SameC g1 g1 := SameC.rf
  have hM1 := hM.C hS1
  refine sw_aload_n dL_law_1049 rfl ?_
  refine sw_arg (k := 1) hx hj hN rfl rfl dL_law_1050 dL_law_1051 dL_law_1053 (by decide) dL_law_1054 dL_law_1055 (by decide) ?_
  refine sw_gv1 dL_law_1056 cv_L_130 (rc_rm hM1) (n_flow hM1) (fun r g2 hr => ?_)
  obtain ⟨rfl, hM2, hS2⟩ := hr
  refine sw_cmpeq (tgt := 1261) dL_law_1059 (by decide) (fun _ => ?_) (fun q => absurd rfl q)
  exact next g2 _ (hV.step hC1 hS1 (hM2.mono (by omega)) hS2)
theorem law_25 {G : SG} {bc bs j T : Nat} {v5 v6 : Value} {h : AH} {s : CS} {P : Option Value → AH → Prop} (hal : sg_al G = false) (hx : sg_ad G 1999 = (sg_x G).1) (hj : j + 6 ≤ (sg_x G).2.1) (hN : (sg_x G).2.1 ≤ 3072) (hV : LV h s T) (hT : T + 400000 < 2 ^ 29) (next : ∀ h' s', LV h' s' (T + 400000) → SW G mL_law 13 bc bs 1261 [.ref 1999, .ref 0, .ref 75, .ref 84, .int (nI j), v5, v6] [] h' P) : SW G mL_law 13 bc bs 1064 [.ref 1999, .ref 0, .ref 75, .ref 84, .int (nI j), v5, v6] [] h P := by
  obtain ⟨hC, hM, hl, h84⟩ := id hV
  obtain ⟨hI, hK, hp⟩ := hM.ok
  refine sw_aload_n dL_law_1064 rfl ?_
  refine sw_arg (k := 1) hx hj hN rfl rfl dL_law_1065 dL_law_1066 dL_law_1068 (by decide) dL_law_1069 dL_law_1070 (by decide) ?_
  refine sw_arg (k := 2) hx hj hN rfl rfl dL_law_1071 dL_law_1072 dL_law_1074 (by decide) dL_law_1075 dL_law_1076 (by decide) ?_
  refine sw_arg (k := 3) hx hj hN rfl rfl dL_law_1077 dL_law_1078 dL_law_1080 (by decide) dL_law_1081 dL_law_1082 (by decide) ?_
  refine sw_gv3 dL_law_1083 cv_L_131 (rc_ca hC) (k_rem hC) (fun r g1 hr => ?_)
  obtain ⟨rfl, rfl⟩ := hr
  have hC1 := hC
  have hS1 : SameC g1 g1 := SameC.rf
  have hM1 := hM.C hS1
  refine sw_aload_n dL_law_1086 rfl ?_
  refine sw_arg (k := 1) hx hj hN rfl rfl dL_law_1087 dL_law_1088 dL_law_1090 (by decide) dL_law_1091 dL_law_1092 (by decide) ?_
  refine sw_arg (k := 2) hx hj hN rfl rfl dL_law_1093 dL_law_1094 dL_law_1096 (by decide) dL_law_1097 dL_law_1098 (by decide) ?_
  refine sw_arg (k := 3) hx hj hN rfl rfl dL_law_1099 dL_law_1100 dL_law_1102 (by decide) dL_law_1103 dL_law_1104 (by decide) ?_
  refine sw_gv3 dL_law_1105 cv_L_134 (rc_rm hM1) (n_rem hM1) (fun r g2 hr => ?_)
  obtain ⟨rfl, hM2, hS2⟩ := hr
  refine sw_cmpeq (tgt := 1261) dL_law_1108 (by decide) (fun _ => ?_) (fun q => absurd rfl q)
  exact next g2 _ (hV.step hC1 hS1 (hM2.mono (by omega)) hS2)
theorem law_26 {G : SG} {bc bs j T : Nat} {v5 v6 : Value} {h : AH} {s : CS} {P : Option Value → AH → Prop} (hal : sg_al G = false) (hx : sg_ad G 1999 = (sg_x G).1) (hj : j + 6 ≤ (sg_x G).2.1) (hN : (sg_x G).2.1 ≤ 3072) (hV : LV h s T) (hT : T + 400000 < 2 ^ 29) (next : ∀ h' s', LV h' s' (T + 400000) → SW G mL_law 13 bc bs 1261 [.ref 1999, .ref 0, .ref 75, .ref 84, .int (nI j), v5, v6] [] h' P) : SW G mL_law 13 bc bs 1113 [.ref 1999, .ref 0, .ref 75, .ref 84, .int (nI j), v5, v6] [] h P := by
  obtain ⟨hC, hM, hl, h84⟩ := id hV
  obtain ⟨hI, hK, hp⟩ := hM.ok
  refine sw_aload_n dL_law_1113 rfl ?_
  refine sw_arg (k := 1) hx hj hN rfl rfl dL_law_1114 dL_law_1115 dL_law_1117 (by decide) dL_law_1118 dL_law_1119 (by decide) ?_
  refine sw_arg (k := 2) hx hj hN rfl rfl dL_law_1120 dL_law_1121 dL_law_1123 (by decide) dL_law_1124 dL_law_1125 (by decide) ?_
  refine sw_gv2 dL_law_1126 cv_L_135 (rc_ca hC) (k_flows hC) (fun r g1 hr => ?_)
  obtain ⟨rfl, rfl⟩ := hr
  have hC1 := hC
  have hS1 : SameC g1 g1 := SameC.rf
  have hM1 := hM.C hS1
  refine sw_aload_n dL_law_1129 rfl ?_
  refine sw_arg (k := 1) hx hj hN rfl rfl dL_law_1130 dL_law_1131 dL_law_1133 (by decide) dL_law_1134 dL_law_1135 (by decide) ?_
  refine sw_arg (k := 2) hx hj hN rfl rfl dL_law_1136 dL_law_1137 dL_law_1139 (by decide) dL_law_1140 dL_law_1141 (by decide) ?_
  refine sw_gv2 dL_law_1142 cv_L_138 (rc_rm hM1) (n_flows hM1) (fun r g2 hr => ?_)
  obtain ⟨rfl, hM2, hS2⟩ := hr
  refine sw_cmpeq (tgt := 1261) dL_law_1145 (by decide) (fun _ => ?_) (fun q => absurd rfl q)
  exact next g2 _ (hV.step hC1 hS1 (hM2.mono (by omega)) hS2)
theorem law_27 {G : SG} {bc bs j T : Nat} {v5 v6 : Value} {h : AH} {s : CS} {P : Option Value → AH → Prop} (hal : sg_al G = false) (hx : sg_ad G 1999 = (sg_x G).1) (hj : j + 6 ≤ (sg_x G).2.1) (hN : (sg_x G).2.1 ≤ 3072) (hV : LV h s T) (hT : T + 400000 < 2 ^ 29) (next : ∀ h' s', LV h' s' (T + 400000) → SW G mL_law 13 bc bs 1261 [.ref 1999, .ref 0, .ref 75, .ref 84, .int (nI j), v5, v6] [] h' P) : SW G mL_law 13 bc bs 1150 [.ref 1999, .ref 0, .ref 75, .ref 84, .int (nI j), v5, v6] [] h P := by
  obtain ⟨hC, hM, hl, h84⟩ := id hV
  obtain ⟨hI, hK, hp⟩ := hM.ok
  refine sw_aload_n dL_law_1150 rfl ?_
  refine sw_arg (k := 1) hx hj hN rfl rfl dL_law_1151 dL_law_1152 dL_law_1154 (by decide) dL_law_1155 dL_law_1156 (by decide) ?_
  refine sw_arg (k := 2) hx hj hN rfl rfl dL_law_1157 dL_law_1158 dL_law_1160 (by decide) dL_law_1161 dL_law_1162 (by decide) ?_
  refine sw_gv2 dL_law_1163 cv_L_139 (rc_ca hC) (k_flowAt hC) (fun r g1 hr => ?_)
  obtain ⟨rfl, rfl⟩ := hr
  have hC1 := hC
  have hS1 : SameC g1 g1 := SameC.rf
  have hM1 := hM.C hS1
  refine sw_aload_n dL_law_1166 rfl ?_
  refine sw_arg (k := 1) hx hj hN rfl rfl dL_law_1167 dL_law_1168 dL_law_1170 (by decide) dL_law_1171 dL_law_1172 (by decide) ?_
  refine sw_arg (k := 2) hx hj hN rfl rfl dL_law_1173 dL_law_1174 dL_law_1176 (by decide) dL_law_1177 dL_law_1178 (by decide) ?_
  refine sw_gv2 dL_law_1179 cv_L_142 (rc_rm hM1) (n_flowAt hM1) (fun r g2 hr => ?_)
  obtain ⟨rfl, hM2, hS2⟩ := hr
  refine sw_cmpeq (tgt := 1261) dL_law_1182 (by decide) (fun _ => ?_) (fun q => absurd rfl q)
  exact next g2 _ (hV.step hC1 hS1 (hM2.mono (by omega)) hS2)
theorem law_28 {G : SG} {bc bs j T : Nat} {v5 v6 : Value} {h : AH} {s : CS} {P : Option Value → AH → Prop} (hal : sg_al G = false) (hx : sg_ad G 1999 = (sg_x G).1) (hj : j + 6 ≤ (sg_x G).2.1) (hN : (sg_x G).2.1 ≤ 3072) (hV : LV h s T) (hT : T + 400000 < 2 ^ 29) (next : ∀ h' s', LV h' s' (T + 400000) → SW G mL_law 13 bc bs 1261 [.ref 1999, .ref 0, .ref 75, .ref 84, .int (nI j), v5, v6] [] h' P) : SW G mL_law 13 bc bs 1187 [.ref 1999, .ref 0, .ref 75, .ref 84, .int (nI j), v5, v6] [] h P := by
  obtain ⟨hC, hM, hl, h84⟩ := id hV
  obtain ⟨hI, hK, hp⟩ := hM.ok
  refine sw_aload_n dL_law_1187 rfl ?_
  refine sw_arg (k := 1) hx hj hN rfl rfl dL_law_1188 dL_law_1189 dL_law_1191 (by decide) dL_law_1192 dL_law_1193 (by decide) ?_
  refine sw_arg (k := 2) hx hj hN rfl rfl dL_law_1194 dL_law_1195 dL_law_1197 (by decide) dL_law_1198 dL_law_1199 (by decide) ?_
  refine sw_gv2 dL_law_1200 cv_L_143 (rc_ca hC) (k_astray hC hI) (fun r g1 hr => ?_)
  obtain ⟨rfl, hC1, hS1⟩ := hr
  have hM1 := hM.C hS1
  refine sw_aload_n dL_law_1203 rfl ?_
  refine sw_arg (k := 1) hx hj hN rfl rfl dL_law_1204 dL_law_1205 dL_law_1207 (by decide) dL_law_1208 dL_law_1209 (by decide) ?_
  refine sw_arg (k := 2) hx hj hN rfl rfl dL_law_1210 dL_law_1211 dL_law_1213 (by decide) dL_law_1214 dL_law_1215 (by decide) ?_
  refine sw_gv2 dL_law_1216 cv_L_146 (rc_rm hM1) (n_astray hM1) (fun r g2 hr => ?_)
  obtain ⟨rfl, hM2, hS2⟩ := hr
  refine sw_cmpeq (tgt := 1261) dL_law_1219 (by decide) (fun _ => ?_) (fun q => absurd rfl q)
  exact next g2 _ (hV.step hC1 hS1 (hM2.mono (by omega)) hS2)
theorem law_29 {G : SG} {bc bs j T : Nat} {v5 v6 : Value} {h : AH} {s : CS} {P : Option Value → AH → Prop} (hal : sg_al G = false) (hx : sg_ad G 1999 = (sg_x G).1) (hj : j + 6 ≤ (sg_x G).2.1) (hN : (sg_x G).2.1 ≤ 3072) (hV : LV h s T) (hT : T + 400000 < 2 ^ 29) (next : ∀ h' s', LV h' s' (T + 400000) → SW G mL_law 13 bc bs 1261 [.ref 1999, .ref 0, .ref 75, .ref 84, .int (nI j), v5, v6] [] h' P) : SW G mL_law 13 bc bs 1224 [.ref 1999, .ref 0, .ref 75, .ref 84, .int (nI j), v5, v6] [] h P := by
  obtain ⟨hC, hM, hl, h84⟩ := id hV
  obtain ⟨hI, hK, hp⟩ := hM.ok
  refine sw_aload_n dL_law_1224 rfl ?_
  refine sw_arg (k := 1) hx hj hN rfl rfl dL_law_1225 dL_law_1226 dL_law_1228 (by decide) dL_law_1229 dL_law_1230 (by decide) ?_
  refine sw_arg (k := 2) hx hj hN rfl rfl dL_law_1231 dL_law_1232 dL_law_1234 (by decide) dL_law_1235 dL_law_1236 (by decide) ?_
  refine sw_gv2 dL_law_1237 cv_L_147 (rc_ca hC) (k_idle hC) (fun r g1 hr => ?_)
  obtain ⟨rfl, rfl⟩ := hr
  have hC1 := hC
  have hS1 : SameC g1 g1 := SameC.rf
  have hM1 := hM.C hS1
  refine sw_aload_n dL_law_1240 rfl ?_
  refine sw_arg (k := 1) hx hj hN rfl rfl dL_law_1241 dL_law_1242 dL_law_1244 (by decide) dL_law_1245 dL_law_1246 (by decide) ?_
  refine sw_arg (k := 2) hx hj hN rfl rfl dL_law_1247 dL_law_1248 dL_law_1250 (by decide) dL_law_1251 dL_law_1252 (by decide) ?_
  refine sw_gv2 dL_law_1253 cv_L_150 (rc_rm hM1) (n_idle hM1 (by omega)) (fun r g2 hr => ?_)
  obtain ⟨rfl, hM2, hS2⟩ := hr
  refine sw_cmpeq (tgt := 1261) dL_law_1256 (by decide) (fun _ => ?_) (fun q => absurd rfl q)
  exact next g2 _ (hV.step hC1 hS1 (hM2.mono (by omega)) hS2)
theorem law_2 {G : SG} {bc bs j T : Nat} {v5 v6 : Value} {h : AH} {s : CS} {P : Option Value → AH → Prop} (hal : sg_al G = false) (hx : sg_ad G 1999 = (sg_x G).1) (hj : j + 6 ≤ (sg_x G).2.1) (hN : (sg_x G).2.1 ≤ 3072) (hV : LV h s T) (hT : T + 400000 < 2 ^ 29) (next : ∀ h' s', LV h' s' (T + 400000) → SW G mL_law 13 bc bs 1261 [.ref 1999, .ref 0, .ref 75, .ref 84, .int (nI j), v5, v6] [] h' P) : SW G mL_law 13 bc bs 274 [.ref 1999, .ref 0, .ref 75, .ref 84, .int (nI j), v5, v6] [] h P := by
  obtain ⟨hC, hM, hl, h84⟩ := id hV
  obtain ⟨hI, hK, hp⟩ := hM.ok
  refine sw_aload_n dL_law_274 rfl ?_
  refine sw_gv0 dL_law_275 cv_L_29 (rc_ca hC) (k_tell hal hC hI) (fun r g1 hr => ?_)
  obtain ⟨hS1, w0, vb, nm, hE, hr⟩ := hr
  have hM1 := hM.C hS1
  have hn := n_tell (G := G) (d := 1) (vb := vb) (nm := nm) hM1 hE (by omega)
  generalize tlF s.2.1 s.2.2.1 400 (w0, 0, advK s.2.1 s.2.2.1 (0, 0, 0), vb, nm, 0) = X at hr hn
  rcases hr with ⟨a, rfl, hC1⟩ | ⟨a, rfl, hC1⟩
  · refine sw_aload_n dL_law_278 rfl ?_
    refine sw_gv0 dL_law_279 cv_L_33 (rc_rm hM1) hn (fun r g2 hr => ?_)
    obtain ⟨hS2, ⟨a', rfl, hM2⟩ | ⟨a', rfl, hM2⟩⟩ := hr
    · refine sw_cmpeq (tgt := 1261) dL_law_282 (by decide) (fun _ => ?_) (fun q => absurd rfl q)
      exact next g2 _ (hV.step hC1 hS1 hM2 hS2)
    · exact absurd a a'
  · refine sw_aload_n dL_law_278 rfl ?_
    refine sw_gv0 dL_law_279 cv_L_33 (rc_rm hM1) hn (fun r g2 hr => ?_)
    obtain ⟨hS2, ⟨a', rfl, hM2⟩ | ⟨a', rfl, hM2⟩⟩ := hr
    · exact absurd a' a
    · refine sw_cmpeq (tgt := 1261) dL_law_282 (by decide) (fun _ => ?_) (fun q => absurd rfl q)
      exact next g2 _ (hV.step hC1 hS1 (hM2.mono (by omega)) hS2)
theorem law_11 {G : SG} {bc bs j T : Nat} {v5 v6 : Value} {h : AH} {s : CS} {P : Option Value → AH → Prop} (hal : sg_al G = false) (hx : sg_ad G 1999 = (sg_x G).1) (hj : j + 6 ≤ (sg_x G).2.1) (hN : (sg_x G).2.1 ≤ 3072) (hV : LV h s T) (hT : T + 400000 < 2 ^ 29) (next : ∀ h' s', LV h' s' (T + 400000) → SW G mL_law 13 bc bs 1261 [.ref 1999, .ref 0, .ref 75, .ref 84, .int (nI j), v5, v6] [] h' P) : SW G mL_law 13 bc bs 547 [.ref 1999, .ref 0, .ref 75, .ref 84, .int (nI j), v5, v6] [] h P := by
  obtain ⟨hC, hM, hl, h84⟩ := id hV
  obtain ⟨hI, hK, hp⟩ := hM.ok
  refine sw_aload_n dL_law_547 rfl ?_
  refine sw_arg (k := 1) hx hj hN rfl rfl dL_law_548 dL_law_549 dL_law_551 (by decide) dL_law_552 dL_law_553 (by decide) ?_
  refine sw_gv1 dL_law_554 cv_L_69 (rc_ca hC) (k_keep hC hI) (fun r g1 hr => ?_)
  obtain ⟨hS1, hr⟩ := hr
  have hM1 := hM.C hS1
  rcases hr with ⟨a, rfl, hC1⟩ | ⟨gi, t', hgi, ge, rfl, ht, hC1⟩
  · refine sw_aload_n dL_law_557 rfl ?_
    refine sw_arg (k := 1) hx hj hN rfl rfl dL_law_558 dL_law_559 dL_law_561 (by decide) dL_law_562 dL_law_563 (by decide) ?_
    refine sw_gv1 dL_law_564 cv_L_72 (rc_rm hM1) (n_keep0 hM1 a) (fun r g2 hr => ?_)
    obtain ⟨rfl, hM2, hS2⟩ := hr
    refine sw_cmpeq (tgt := 1261) dL_law_567 (by decide) (fun _ => ?_) (fun q => absurd rfl q)
    exact next g2 _ (hV.step hC1 hS1 (hM2.mono (by omega)) hS2)
  · refine sw_aload_n dL_law_557 rfl ?_
    refine sw_arg (k := 1) hx hj hN rfl rfl dL_law_558 dL_law_559 dL_law_561 (by decide) dL_law_562 dL_law_563 (by decide) ?_
    rw [ge]
    refine sw_gv1 dL_law_564 cv_L_72 (rc_rm hM1) (n_keep (t' := t') hM1 hgi ht) (fun r g2 hr => ?_)
    obtain ⟨rfl, hM2, hS2⟩ := hr
    refine sw_cmpeq (tgt := 1261) dL_law_567 (by decide) (fun _ => ?_) (fun q => absurd rfl q)
    exact next g2 _ (hV.step hC1 hS1 (hM2.mono (by omega)) hS2)
theorem law_22 {G : SG} {bc bs j T : Nat} {v5 v6 : Value} {h : AH} {s : CS} {P : Option Value → AH → Prop} (hal : sg_al G = false) (hx : sg_ad G 1999 = (sg_x G).1) (hj : j + 6 ≤ (sg_x G).2.1) (hN : (sg_x G).2.1 ≤ 3072) (hV : LV h s T) (hT : T + 400000 < 2 ^ 29) (next : ∀ h' s', LV h' s' (T + 400000) → SW G mL_law 13 bc bs 1261 [.ref 1999, .ref 0, .ref 75, .ref 84, .int (nI j), v5, v6] [] h' P) : SW G mL_law 13 bc bs 937 [.ref 1999, .ref 0, .ref 75, .ref 84, .int (nI j), v5, v6] [] h P := by
  obtain ⟨hC, hM, hl, h84⟩ := id hV
  obtain ⟨hI, hK, hp⟩ := hM.ok
  by_cases hz : (sg_x G).2.2 (j + 4) = 0
  · refine sw_aload_n dL_law_937 rfl ?_
    refine sw_arg (k := 1) hx hj hN rfl rfl dL_law_938 dL_law_939 dL_law_941 (by decide) dL_law_942 dL_law_943 (by decide) ?_
    refine sw_arg (k := 2) hx hj hN rfl rfl dL_law_944 dL_law_945 dL_law_947 (by decide) dL_law_948 dL_law_949 (by decide) ?_
    refine sw_arg (k := 3) hx hj hN rfl rfl dL_law_950 dL_law_951 dL_law_953 (by decide) dL_law_954 dL_law_955 (by decide) ?_
    refine sw_arg (k := 4) hx hj hN rfl rfl dL_law_956 dL_law_957 dL_law_959 (by decide) dL_law_960 dL_law_961 (by decide) ?_
    refine sw_ifeq (tgt := 969) dL_law_962 (by decide) (fun _ => ?_) (fun q => absurd hz q)
    refine sw_iconst (v := 0) dL_law_969 (by decide) ?_
    refine sw_gv4 dL_law_970 cv_L_118 (rc_ca hC) (k_were hC hI) (fun r g1 hr => ?_)
    obtain ⟨rfl, hC1, hS1⟩ := hr
    have hM1 := hM.C hS1
    refine sw_aload_n dL_law_973 rfl ?_
    refine sw_arg (k := 1) hx hj hN rfl rfl dL_law_974 dL_law_975 dL_law_977 (by decide) dL_law_978 dL_law_979 (by decide) ?_
    refine sw_arg (k := 2) hx hj hN rfl rfl dL_law_980 dL_law_981 dL_law_983 (by decide) dL_law_984 dL_law_985 (by decide) ?_
    refine sw_arg (k := 3) hx hj hN rfl rfl dL_law_986 dL_law_987 dL_law_989 (by decide) dL_law_990 dL_law_991 (by decide) ?_
    refine sw_arg (k := 4) hx hj hN rfl rfl dL_law_992 dL_law_993 dL_law_995 (by decide) dL_law_996 dL_law_997 (by decide) ?_
    refine sw_ifeq (tgt := 1005) dL_law_998 (by decide) (fun _ => ?_) (fun q => absurd hz q)
    refine sw_iconst (v := 0) dL_law_1005 (by decide) ?_
    refine sw_gv4 dL_law_1006 cv_L_122 (rc_rm hM1) (n_were hM1) (fun r g2 hr => ?_)
    obtain ⟨rfl, hM2, hS2⟩ := hr
    refine sw_cmpeq (tgt := 1261) dL_law_1009 (by decide) (fun _ => ?_) (fun q => absurd rfl q)
    exact next g2 _ (hV.step hC1 hS1 (hM2.mono (by omega)) hS2)
  · refine sw_aload_n dL_law_937 rfl ?_
    refine sw_arg (k := 1) hx hj hN rfl rfl dL_law_938 dL_law_939 dL_law_941 (by decide) dL_law_942 dL_law_943 (by decide) ?_
    refine sw_arg (k := 2) hx hj hN rfl rfl dL_law_944 dL_law_945 dL_law_947 (by decide) dL_law_948 dL_law_949 (by decide) ?_
    refine sw_arg (k := 3) hx hj hN rfl rfl dL_law_950 dL_law_951 dL_law_953 (by decide) dL_law_954 dL_law_955 (by decide) ?_
    refine sw_arg (k := 4) hx hj hN rfl rfl dL_law_956 dL_law_957 dL_law_959 (by decide) dL_law_960 dL_law_961 (by decide) ?_
    refine sw_ifeq (tgt := 969) dL_law_962 (by decide) (fun q => absurd q hz) (fun _ => ?_)
    refine sw_iconst (v := 1) dL_law_965 (by decide) ?_
    refine sw_goto (tgt := 970) dL_law_966 (by decide) ?_
    refine sw_gv4 dL_law_970 cv_L_118 (rc_ca hC) (k_were hC hI) (fun r g1 hr => ?_)
    obtain ⟨rfl, hC1, hS1⟩ := hr
    have hM1 := hM.C hS1
    refine sw_aload_n dL_law_973 rfl ?_
    refine sw_arg (k := 1) hx hj hN rfl rfl dL_law_974 dL_law_975 dL_law_977 (by decide) dL_law_978 dL_law_979 (by decide) ?_
    refine sw_arg (k := 2) hx hj hN rfl rfl dL_law_980 dL_law_981 dL_law_983 (by decide) dL_law_984 dL_law_985 (by decide) ?_
    refine sw_arg (k := 3) hx hj hN rfl rfl dL_law_986 dL_law_987 dL_law_989 (by decide) dL_law_990 dL_law_991 (by decide) ?_
    refine sw_arg (k := 4) hx hj hN rfl rfl dL_law_992 dL_law_993 dL_law_995 (by decide) dL_law_996 dL_law_997 (by decide) ?_
    refine sw_ifeq (tgt := 1005) dL_law_998 (by decide) (fun q => absurd q hz) (fun _ => ?_)
    refine sw_iconst (v := 1) dL_law_1001 (by decide) ?_
    refine sw_goto (tgt := 1006) dL_law_1002 (by decide) ?_
    refine sw_gv4 dL_law_1006 cv_L_122 (rc_rm hM1) (n_were hM1) (fun r g2 hr => ?_)
    obtain ⟨rfl, hM2, hS2⟩ := hr
    refine sw_cmpeq (tgt := 1261) dL_law_1009 (by decide) (fun _ => ?_) (fun q => absurd rfl q)
    exact next g2 _ (hV.step hC1 hS1 (hM2.mono (by omega)) hS2)
