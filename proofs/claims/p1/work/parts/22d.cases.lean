/-! ===== the law, case by case: laid by program ===== -/
noncomputable def fC_addStation (z : KS) (M : Mem) (p1 : Int32) (p2 : Int32) (p3 : Int32) (p4 : Int32) (p5 : Int32) (p6 : Int32) : Option (KS × Mem) := (fL_addStation z (ch p1) p2 p3 p4 p5 p6).bind fun z1 => (fX12_addStation M (ch p1) p2 p3 p4 p5 p6).bind fun y1 => gd (decide (y1.2 0 4 = z1.1)) (gd (decide (z1.1 = 0 → z1.2.o = Int32.toInt64 y1.1)) (some (z1.2, y1.2)))
set_option maxHeartbeats 4000000 in
set_option maxRecDepth 100000 in
theorem lawC_addStation {p : Program} {l : Launch} {e : Env} {s : State} {m : MethodId} {below : List Frame} {meth : Method} {c : Code} {E : EP} {b L B : Nat} {xs : Nat → Int32} {Q : State → Prop} (X : LC p l e s m meth c E b L B xs) {j : Nat} (hj : 7 * j + 7 ≤ L) {z : KS} {M : Mem} {r : KS × Mem} (hf : fC_addStation z M (xs (7 * j + 1)) (xs (7 * j + 2)) (xs (7 * j + 3)) (xs (7 * j + 4)) (xs (7 * j + 5)) (xs (7 * j + 6)) = some r) {H : Heap} {locs : List Loc} {ls : Array Slot} {cs sl : Nat} (hcs : cs + 40 ≤ 600006) (hsl : sl + 1000 ≤ 7302096) (hC : CW E B z H) (hM : Blk E (B + 202) modSh 10 M H) (hS : va_S (fun q => B ≤ q) s.heap H locs) (hl : lv_has ls 9 (lawL b B j)) (kk : LK p l e s m below meth c E b B Q j (cs + 40) (sl + 1000) r) : W p l e room_1 s m #[Value.ref b] below meth c H locs cs sl Q (F0 m 264 ls []) := by
  obtain ⟨hx, hb, hml, hown, hw, hE, htr, hX, hbl, hbB, hL3⟩ := X
  have hAB : ∀ q, (fun q => B ≤ q) q → B ≤ q := fun _ h => h
  unfold fC_addStation at hf
  refine lv_aload_n hx hb dL_law_264 rfl (lv_at hl 2 rfl) ?_
  refine lv_aload_n hx hb dL_law_265 rfl (lv_at hl 1 rfl) ?_
  refine lv_iload hx hb dL_law_266 (lv_at hl 0 rfl) ?_
  refine lv_iconst (v := 1) hx hb dL_law_268 (by decide) ?_
  refine lv_iadd hx hb dL_law_269 ?_
  refine sc_ld (k := 1) hx hb hX hbl hbB hS hj hL3 (by decide) rfl dL_law_270 ?_
  refine lv_i2c (v := ch (xs (7 * j + 1))) hx hb dL_law_271 rfl ?_
  refine lv_aload_n hx hb dL_law_272 rfl (lv_at hl 1 rfl) ?_
  refine lv_iload hx hb dL_law_273 (lv_at hl 0 rfl) ?_
  refine lv_iconst (v := 2) hx hb dL_law_275 (by decide) ?_
  refine lv_iadd hx hb dL_law_276 ?_
  refine sc_ld (k := 2) hx hb hX hbl hbB hS hj hL3 (by decide) rfl dL_law_277 ?_
  refine lv_aload_n hx hb dL_law_278 rfl (lv_at hl 1 rfl) ?_
  refine lv_iload hx hb dL_law_279 (lv_at hl 0 rfl) ?_
  refine lv_iconst (v := 3) hx hb dL_law_281 (by decide) ?_
  refine lv_iadd hx hb dL_law_282 ?_
  refine sc_ld (k := 3) hx hb hX hbl hbB hS hj hL3 (by decide) rfl dL_law_283 ?_
  refine lv_aload_n hx hb dL_law_284 rfl (lv_at hl 1 rfl) ?_
  refine lv_iload hx hb dL_law_285 (lv_at hl 0 rfl) ?_
  refine lv_iconst (v := 4) hx hb dL_law_287 (by decide) ?_
  refine lv_iadd hx hb dL_law_288 ?_
  refine sc_ld (k := 4) hx hb hX hbl hbB hS hj hL3 (by decide) rfl dL_law_289 ?_
  refine lv_aload_n hx hb dL_law_290 rfl (lv_at hl 1 rfl) ?_
  refine lv_iload hx hb dL_law_291 (lv_at hl 0 rfl) ?_
  refine lv_iconst (v := 5) hx hb dL_law_293 (by decide) ?_
  refine lv_iadd hx hb dL_law_294 ?_
  refine sc_ld (k := 5) hx hb hX hbl hbB hS hj hL3 (by decide) rfl dL_law_295 ?_
  refine lv_aload_n hx hb dL_law_296 rfl (lv_at hl 1 rfl) ?_
  refine lv_iload hx hb dL_law_297 (lv_at hl 0 rfl) ?_
  refine lv_bipush (v := 6) hx hb dL_law_299 (by decide) ?_
  refine lv_iadd hx hb dL_law_301 ?_
  refine sc_ld (k := 6) hx hb hX hbl hbB hS hj hL3 (by decide) rfl dL_law_302 ?_
  refine lv_aload_n hx hb dL_law_303 rfl (lv_at hl 4 rfl) ?_
  obtain ⟨z1, hc1, hf⟩ := br_some hf
  refine mg_cW (As := [.ref (B + 0), .int (ch (xs (7 * j + 1))), .int (xs (7 * j + 2)), .int (xs (7 * j + 3)), .int (xs (7 * j + 4)), .int (xs (7 * j + 5)), .int (xs (7 * j + 6)), .ref (B + 212)]) (rest := []) hx hb hml hown hw hE (mL_addStation l E B htr B (Nat.le_refl B) z (ch (xs (7 * j + 1))) (xs (7 * j + 2)) (xs (7 * j + 3)) (xs (7 * j + 4)) (xs (7 * j + 5)) (xs (7 * j + 6)) z1 hc1) cw_L_166 hC hS hAB (cA_ge (Nat.le_refl B)) rfl hl.1 rfl (by decide) (by decide) (Nat.le_of_ble_eq_true rfl) ⟨by show _ + _ ≤ 600006; omega, by show _ + _ ≤ 7302096; omega⟩ dL_law_304 (fun H locs hC hz hu hS => ?_)
  have hM := Blk.off hM hu (fun q q1 q2 q3 => by rcases q3 with h | h <;> omega)
  refine lv_istore (lv' := [(6, .int z1.1), (5, .int (nI (7 * j))), (0, .ref b), (1, .ref (B + 0)), (2, .ref (B + 202 + 0)), (3, .ref (B + 212)), (4, .ref (B + 213))]) hx hb dL_law_307 hl (by decide) rfl (fun ls hl => ?_)
  refine lv_aload_n hx hb dL_law_309 rfl (lv_at hl 4 rfl) ?_
  refine lv_aload_n hx hb dL_law_310 rfl (lv_at hl 2 rfl) ?_
  refine lv_iload hx hb dL_law_311 (lv_at hl 1 rfl) ?_
  refine lv_iconst (v := 1) hx hb dL_law_313 (by decide) ?_
  refine lv_iadd hx hb dL_law_314 ?_
  refine sc_ld (k := 1) hx hb hX hbl hbB hS hj hL3 (by decide) rfl dL_law_315 ?_
  refine lv_i2c (v := ch (xs (7 * j + 1))) hx hb dL_law_316 rfl ?_
  refine lv_aload_n hx hb dL_law_317 rfl (lv_at hl 2 rfl) ?_
  refine lv_iload hx hb dL_law_318 (lv_at hl 1 rfl) ?_
  refine lv_iconst (v := 2) hx hb dL_law_320 (by decide) ?_
  refine lv_iadd hx hb dL_law_321 ?_
  refine sc_ld (k := 2) hx hb hX hbl hbB hS hj hL3 (by decide) rfl dL_law_322 ?_
  refine lv_aload_n hx hb dL_law_323 rfl (lv_at hl 2 rfl) ?_
  refine lv_iload hx hb dL_law_324 (lv_at hl 1 rfl) ?_
  refine lv_iconst (v := 3) hx hb dL_law_326 (by decide) ?_
  refine lv_iadd hx hb dL_law_327 ?_
  refine sc_ld (k := 3) hx hb hX hbl hbB hS hj hL3 (by decide) rfl dL_law_328 ?_
  refine lv_aload_n hx hb dL_law_329 rfl (lv_at hl 2 rfl) ?_
  refine lv_iload hx hb dL_law_330 (lv_at hl 1 rfl) ?_
  refine lv_iconst (v := 4) hx hb dL_law_332 (by decide) ?_
  refine lv_iadd hx hb dL_law_333 ?_
  refine sc_ld (k := 4) hx hb hX hbl hbB hS hj hL3 (by decide) rfl dL_law_334 ?_
  refine lv_aload_n hx hb dL_law_335 rfl (lv_at hl 2 rfl) ?_
  refine lv_iload hx hb dL_law_336 (lv_at hl 1 rfl) ?_
  refine lv_iconst (v := 5) hx hb dL_law_338 (by decide) ?_
  refine lv_iadd hx hb dL_law_339 ?_
  refine sc_ld (k := 5) hx hb hX hbl hbB hS hj hL3 (by decide) rfl dL_law_340 ?_
  refine lv_aload_n hx hb dL_law_341 rfl (lv_at hl 2 rfl) ?_
  refine lv_iload hx hb dL_law_342 (lv_at hl 1 rfl) ?_
  refine lv_bipush (v := 6) hx hb dL_law_344 (by decide) ?_
  refine lv_iadd hx hb dL_law_346 ?_
  refine sc_ld (k := 6) hx hb hX hbl hbB hS hj hL3 (by decide) rfl dL_law_347 ?_
  obtain ⟨y1, hc2, hf⟩ := br_some hf
  refine mg_cV (As := [.int (ch (xs (7 * j + 1))), .int (xs (7 * j + 2)), .int (xs (7 * j + 3)), .int (xs (7 * j + 4)), .int (xs (7 * j + 5)), .int (xs (7 * j + 6))]) (rest := []) hx hb hml hown hw hE (mX12_addStation l E B (B + 202) (by omega) M (ch (xs (7 * j + 1))) (xs (7 * j + 2)) (xs (7 * j + 3)) (xs (7 * j + 4)) (xs (7 * j + 5)) (xs (7 * j + 6)) y1 hc2) cv_L_171 (w_recv (k := 0) (ci := 12) hE hM (by decide) rfl rfl) hM hS hAB (fun q h => Nat.le_trans (Nat.le_add_right B 202) h.1) rfl hl.1 rfl (by decide) (by decide) (Nat.le_of_ble_eq_true rfl) ⟨by show _ + _ ≤ 600006; omega, by show _ + _ ≤ 7302096; omega⟩ dL_law_348 (fun H locs hM hz hu hS => ?_)
  have hC := CW.off hC hz hu (fun q hq q3 => by obtain ⟨q1, q2⟩ := q3; rcases hq with h | h <;> omega)
  refine lv_istore (lv' := [(7, .int y1.1), (6, .int z1.1), (5, .int (nI (7 * j))), (0, .ref b), (1, .ref (B + 0)), (2, .ref (B + 202 + 0)), (3, .ref (B + 212)), (4, .ref (B + 213))]) hx hb dL_law_351 hl (by decide) rfl (fun ls hl => ?_)
  refine lv_aload_n hx hb dL_law_353 rfl (lv_at hl 5 rfl) ?_
  refine mg_cV (As := []) (rest := []) hx hb hml hown hw hE (mX12_thrown l E B (B + 202) (by omega) y1.2 (y1.2 0 4) rfl) cv_L_172 (w_recv (k := 0) (ci := 12) hE hM (by decide) rfl rfl) hM hS hAB (fun _ h => h.elim) rfl hl.1 rfl (by decide) (by decide) (Nat.le_of_ble_eq_true rfl) ⟨by show _ + _ ≤ 600006; omega, by show _ + _ ≤ 7302096; omega⟩ dL_law_354 (fun H locs hM hz hu hS => ?_)
  have hC := CW.off hC hz hu (fun q hq q3 => q3)
  refine lv_iload hx hb dL_law_357 (lv_at hl 1 rfl) ?_
  obtain ⟨e1, hf⟩ := gd_some hf
  have e1 : y1.2 0 4 = z1.1 := of_decide_eq_true e1
  obtain ⟨e2, hf⟩ := gd_some hf
  have e2 : z1.1 = 0 → z1.2.o = Int32.toInt64 y1.1 := of_decide_eq_true e2
  have hre := Option.some.inj hf
  subst hre
  refine lv_icmp_eq (tgt := 364) hx hb dL_law_359 (by decide) (fun _ => ?_) (fun c9 => absurd e1 c9)
  refine lv_iload hx hb dL_law_364 (lv_at hl 1 rfl) ?_
  have fin : ∀ k9 n9 : Nat, k9 ≤ cs + 40 → n9 ≤ sl + 1000 → W p l e room_1 s m #[Value.ref b] below meth c H locs k9 n9 Q (F0 m 381 ls []) := by
    intro k9 n9 g9 g8
    refine lv_goto (tgt := 2939) hx hb dL_law_381 (by decide) ?_
    refine W.widen (k := cs + 40) (n := sl + 1000) g9 g8 ?_
    exact kk _ _ _ hC hM hS (lv_sub hl [2, 3, 4, 5, 6, 7] rfl)
  refine lv_if_ne (tgt := 381) hx hb dL_law_366 (by decide) (fun _ => fin _ _ (by omega) (by omega)) (fun c8 => ?_)
  have e2 := e2 c8
  obtain ⟨hG, hN, hT, hV, hHs, hQ, hR, hP, hSb, hO, hOd⟩ := hC
  refine lv_aload_n hx hb dL_law_369 rfl (lv_at hl 6 rfl) ?_
  refine lv_iconst (v := 0) hx hb dL_law_370 (by decide) ?_
  rw [e2] at hO
  refine w_lald hx hb hE hO dL_law_371 ?_
  refine lv_iload hx hb dL_law_372 (lv_at hl 0 rfl) ?_
  refine lv_i2l hx hb dL_law_374 rfl ?_
  refine lc_eq hx hb dL_law_375 ?_
  refine lv_if_eq (tgt := 381) hx hb dL_law_376 (by decide) (fun _ => fin _ _ (by omega) (by omega)) (fun c7 => absurd rfl c7)
noncomputable def fC_move (z : KS) (M : Mem) (p1 : Int32) (p2 : Int32) (p3 : Int32) : Option (KS × Mem) := (fL_move z p1 p2 p3).bind fun z1 => (fX12_move M p1 p2 p3).bind fun y1 => gd (decide (y1.2 0 4 = z1.1)) (gd (decide (z1.1 = 0 → z1.2.o = Int32.toInt64 y1.1)) (some (z1.2, y1.2)))
set_option maxHeartbeats 4000000 in
set_option maxRecDepth 100000 in
theorem lawC_move {p : Program} {l : Launch} {e : Env} {s : State} {m : MethodId} {below : List Frame} {meth : Method} {c : Code} {E : EP} {b L B : Nat} {xs : Nat → Int32} {Q : State → Prop} (X : LC p l e s m meth c E b L B xs) {j : Nat} (hj : 7 * j + 7 ≤ L) {z : KS} {M : Mem} {r : KS × Mem} (hf : fC_move z M (xs (7 * j + 1)) (xs (7 * j + 2)) (xs (7 * j + 3)) = some r) {H : Heap} {locs : List Loc} {ls : Array Slot} {cs sl : Nat} (hcs : cs + 40 ≤ 600006) (hsl : sl + 1000 ≤ 7302096) (hC : CW E B z H) (hM : Blk E (B + 202) modSh 10 M H) (hS : va_S (fun q => B ≤ q) s.heap H locs) (hl : lv_has ls 9 (lawL b B j)) (kk : LK p l e s m below meth c E b B Q j (cs + 40) (sl + 1000) r) : W p l e room_1 s m #[Value.ref b] below meth c H locs cs sl Q (F0 m 384 ls []) := by
  obtain ⟨hx, hb, hml, hown, hw, hE, htr, hX, hbl, hbB, hL3⟩ := X
  have hAB : ∀ q, (fun q => B ≤ q) q → B ≤ q := fun _ h => h
  unfold fC_move at hf
  refine lv_aload_n hx hb dL_law_384 rfl (lv_at hl 2 rfl) ?_
  refine lv_aload_n hx hb dL_law_385 rfl (lv_at hl 1 rfl) ?_
  refine lv_iload hx hb dL_law_386 (lv_at hl 0 rfl) ?_
  refine lv_iconst (v := 1) hx hb dL_law_388 (by decide) ?_
  refine lv_iadd hx hb dL_law_389 ?_
  refine sc_ld (k := 1) hx hb hX hbl hbB hS hj hL3 (by decide) rfl dL_law_390 ?_
  refine lv_aload_n hx hb dL_law_391 rfl (lv_at hl 1 rfl) ?_
  refine lv_iload hx hb dL_law_392 (lv_at hl 0 rfl) ?_
  refine lv_iconst (v := 2) hx hb dL_law_394 (by decide) ?_
  refine lv_iadd hx hb dL_law_395 ?_
  refine sc_ld (k := 2) hx hb hX hbl hbB hS hj hL3 (by decide) rfl dL_law_396 ?_
  refine lv_aload_n hx hb dL_law_397 rfl (lv_at hl 1 rfl) ?_
  refine lv_iload hx hb dL_law_398 (lv_at hl 0 rfl) ?_
  refine lv_iconst (v := 3) hx hb dL_law_400 (by decide) ?_
  refine lv_iadd hx hb dL_law_401 ?_
  refine sc_ld (k := 3) hx hb hX hbl hbB hS hj hL3 (by decide) rfl dL_law_402 ?_
  refine lv_aload_n hx hb dL_law_403 rfl (lv_at hl 4 rfl) ?_
  obtain ⟨z1, hc1, hf⟩ := br_some hf
  refine mg_cW (As := [.ref (B + 0), .int (xs (7 * j + 1)), .int (xs (7 * j + 2)), .int (xs (7 * j + 3)), .ref (B + 212)]) (rest := []) hx hb hml hown hw hE (mL_move l E B htr B (Nat.le_refl B) z (xs (7 * j + 1)) (xs (7 * j + 2)) (xs (7 * j + 3)) z1 hc1) cw_L_175 hC hS hAB (cA_ge (Nat.le_refl B)) rfl hl.1 rfl (by decide) (by decide) (Nat.le_of_ble_eq_true rfl) ⟨by show _ + _ ≤ 600006; omega, by show _ + _ ≤ 7302096; omega⟩ dL_law_404 (fun H locs hC hz hu hS => ?_)
  have hM := Blk.off hM hu (fun q q1 q2 q3 => by rcases q3 with h | h <;> omega)
  refine lv_istore (lv' := [(6, .int z1.1), (5, .int (nI (7 * j))), (0, .ref b), (1, .ref (B + 0)), (2, .ref (B + 202 + 0)), (3, .ref (B + 212)), (4, .ref (B + 213))]) hx hb dL_law_407 hl (by decide) rfl (fun ls hl => ?_)
  refine lv_aload_n hx hb dL_law_409 rfl (lv_at hl 4 rfl) ?_
  refine lv_aload_n hx hb dL_law_410 rfl (lv_at hl 2 rfl) ?_
  refine lv_iload hx hb dL_law_411 (lv_at hl 1 rfl) ?_
  refine lv_iconst (v := 1) hx hb dL_law_413 (by decide) ?_
  refine lv_iadd hx hb dL_law_414 ?_
  refine sc_ld (k := 1) hx hb hX hbl hbB hS hj hL3 (by decide) rfl dL_law_415 ?_
  refine lv_aload_n hx hb dL_law_416 rfl (lv_at hl 2 rfl) ?_
  refine lv_iload hx hb dL_law_417 (lv_at hl 1 rfl) ?_
  refine lv_iconst (v := 2) hx hb dL_law_419 (by decide) ?_
  refine lv_iadd hx hb dL_law_420 ?_
  refine sc_ld (k := 2) hx hb hX hbl hbB hS hj hL3 (by decide) rfl dL_law_421 ?_
  refine lv_aload_n hx hb dL_law_422 rfl (lv_at hl 2 rfl) ?_
  refine lv_iload hx hb dL_law_423 (lv_at hl 1 rfl) ?_
  refine lv_iconst (v := 3) hx hb dL_law_425 (by decide) ?_
  refine lv_iadd hx hb dL_law_426 ?_
  refine sc_ld (k := 3) hx hb hX hbl hbB hS hj hL3 (by decide) rfl dL_law_427 ?_
  obtain ⟨y1, hc2, hf⟩ := br_some hf
  refine mg_cV (As := [.int (xs (7 * j + 1)), .int (xs (7 * j + 2)), .int (xs (7 * j + 3))]) (rest := []) hx hb hml hown hw hE (mX12_move l E B (B + 202) (by omega) M (xs (7 * j + 1)) (xs (7 * j + 2)) (xs (7 * j + 3)) y1 hc2) cv_L_178 (w_recv (k := 0) (ci := 12) hE hM (by decide) rfl rfl) hM hS hAB (fun q h => Nat.le_trans (Nat.le_add_right B 202) h.1) rfl hl.1 rfl (by decide) (by decide) (Nat.le_of_ble_eq_true rfl) ⟨by show _ + _ ≤ 600006; omega, by show _ + _ ≤ 7302096; omega⟩ dL_law_428 (fun H locs hM hz hu hS => ?_)
  have hC := CW.off hC hz hu (fun q hq q3 => by obtain ⟨q1, q2⟩ := q3; rcases hq with h | h <;> omega)
  refine lv_istore (lv' := [(7, .int y1.1), (6, .int z1.1), (5, .int (nI (7 * j))), (0, .ref b), (1, .ref (B + 0)), (2, .ref (B + 202 + 0)), (3, .ref (B + 212)), (4, .ref (B + 213))]) hx hb dL_law_431 hl (by decide) rfl (fun ls hl => ?_)
  refine lv_aload_n hx hb dL_law_433 rfl (lv_at hl 5 rfl) ?_
  refine mg_cV (As := []) (rest := []) hx hb hml hown hw hE (mX12_thrown l E B (B + 202) (by omega) y1.2 (y1.2 0 4) rfl) cv_L_172 (w_recv (k := 0) (ci := 12) hE hM (by decide) rfl rfl) hM hS hAB (fun _ h => h.elim) rfl hl.1 rfl (by decide) (by decide) (Nat.le_of_ble_eq_true rfl) ⟨by show _ + _ ≤ 600006; omega, by show _ + _ ≤ 7302096; omega⟩ dL_law_434 (fun H locs hM hz hu hS => ?_)
  have hC := CW.off hC hz hu (fun q hq q3 => q3)
  refine lv_iload hx hb dL_law_437 (lv_at hl 1 rfl) ?_
  obtain ⟨e1, hf⟩ := gd_some hf
  have e1 : y1.2 0 4 = z1.1 := of_decide_eq_true e1
  obtain ⟨e2, hf⟩ := gd_some hf
  have e2 : z1.1 = 0 → z1.2.o = Int32.toInt64 y1.1 := of_decide_eq_true e2
  have hre := Option.some.inj hf
  subst hre
  refine lv_icmp_eq (tgt := 444) hx hb dL_law_439 (by decide) (fun _ => ?_) (fun c9 => absurd e1 c9)
  refine lv_iload hx hb dL_law_444 (lv_at hl 1 rfl) ?_
  have fin : ∀ k9 n9 : Nat, k9 ≤ cs + 40 → n9 ≤ sl + 1000 → W p l e room_1 s m #[Value.ref b] below meth c H locs k9 n9 Q (F0 m 461 ls []) := by
    intro k9 n9 g9 g8
    refine lv_goto (tgt := 2939) hx hb dL_law_461 (by decide) ?_
    refine W.widen (k := cs + 40) (n := sl + 1000) g9 g8 ?_
    exact kk _ _ _ hC hM hS (lv_sub hl [2, 3, 4, 5, 6, 7] rfl)
  refine lv_if_ne (tgt := 461) hx hb dL_law_446 (by decide) (fun _ => fin _ _ (by omega) (by omega)) (fun c8 => ?_)
  have e2 := e2 c8
  obtain ⟨hG, hN, hT, hV, hHs, hQ, hR, hP, hSb, hO, hOd⟩ := hC
  refine lv_aload_n hx hb dL_law_449 rfl (lv_at hl 6 rfl) ?_
  refine lv_iconst (v := 0) hx hb dL_law_450 (by decide) ?_
  rw [e2] at hO
  refine w_lald hx hb hE hO dL_law_451 ?_
  refine lv_iload hx hb dL_law_452 (lv_at hl 0 rfl) ?_
  refine lv_i2l hx hb dL_law_454 rfl ?_
  refine lc_eq hx hb dL_law_455 ?_
  refine lv_if_eq (tgt := 461) hx hb dL_law_456 (by decide) (fun _ => fin _ _ (by omega) (by omega)) (fun c7 => absurd rfl c7)
noncomputable def fC_setPower (z : KS) (M : Mem) (p1 : Int32) (p2 : Int32) : Option (KS × Mem) := (fL_setPower z p1 p2).bind fun z1 => (fX12_setPower M p1 p2).bind fun y1 => gd (decide (y1.2 0 4 = z1.1)) (gd (decide (z1.1 = 0 → z1.2.o = Int32.toInt64 y1.1)) (some (z1.2, y1.2)))
set_option maxHeartbeats 4000000 in
set_option maxRecDepth 100000 in
theorem lawC_setPower {p : Program} {l : Launch} {e : Env} {s : State} {m : MethodId} {below : List Frame} {meth : Method} {c : Code} {E : EP} {b L B : Nat} {xs : Nat → Int32} {Q : State → Prop} (X : LC p l e s m meth c E b L B xs) {j : Nat} (hj : 7 * j + 7 ≤ L) {z : KS} {M : Mem} {r : KS × Mem} (hf : fC_setPower z M (xs (7 * j + 1)) (xs (7 * j + 2)) = some r) {H : Heap} {locs : List Loc} {ls : Array Slot} {cs sl : Nat} (hcs : cs + 40 ≤ 600006) (hsl : sl + 1000 ≤ 7302096) (hC : CW E B z H) (hM : Blk E (B + 202) modSh 10 M H) (hS : va_S (fun q => B ≤ q) s.heap H locs) (hl : lv_has ls 9 (lawL b B j)) (kk : LK p l e s m below meth c E b B Q j (cs + 40) (sl + 1000) r) : W p l e room_1 s m #[Value.ref b] below meth c H locs cs sl Q (F0 m 464 ls []) := by
  obtain ⟨hx, hb, hml, hown, hw, hE, htr, hX, hbl, hbB, hL3⟩ := X
  have hAB : ∀ q, (fun q => B ≤ q) q → B ≤ q := fun _ h => h
  unfold fC_setPower at hf
  refine lv_aload_n hx hb dL_law_464 rfl (lv_at hl 2 rfl) ?_
  refine lv_aload_n hx hb dL_law_465 rfl (lv_at hl 1 rfl) ?_
  refine lv_iload hx hb dL_law_466 (lv_at hl 0 rfl) ?_
  refine lv_iconst (v := 1) hx hb dL_law_468 (by decide) ?_
  refine lv_iadd hx hb dL_law_469 ?_
  refine sc_ld (k := 1) hx hb hX hbl hbB hS hj hL3 (by decide) rfl dL_law_470 ?_
  refine lv_aload_n hx hb dL_law_471 rfl (lv_at hl 1 rfl) ?_
  refine lv_iload hx hb dL_law_472 (lv_at hl 0 rfl) ?_
  refine lv_iconst (v := 2) hx hb dL_law_474 (by decide) ?_
  refine lv_iadd hx hb dL_law_475 ?_
  refine sc_ld (k := 2) hx hb hX hbl hbB hS hj hL3 (by decide) rfl dL_law_476 ?_
  refine lv_aload_n hx hb dL_law_477 rfl (lv_at hl 4 rfl) ?_
  obtain ⟨z1, hc1, hf⟩ := br_some hf
  refine mg_cW (As := [.ref (B + 0), .int (xs (7 * j + 1)), .int (xs (7 * j + 2)), .ref (B + 212)]) (rest := []) hx hb hml hown hw hE (mL_setPower l E B htr B (Nat.le_refl B) z (xs (7 * j + 1)) (xs (7 * j + 2)) z1 hc1) cw_L_179 hC hS hAB (cA_ge (Nat.le_refl B)) rfl hl.1 rfl (by decide) (by decide) (Nat.le_of_ble_eq_true rfl) ⟨by show _ + _ ≤ 600006; omega, by show _ + _ ≤ 7302096; omega⟩ dL_law_478 (fun H locs hC hz hu hS => ?_)
  have hM := Blk.off hM hu (fun q q1 q2 q3 => by rcases q3 with h | h <;> omega)
  refine lv_istore (lv' := [(6, .int z1.1), (5, .int (nI (7 * j))), (0, .ref b), (1, .ref (B + 0)), (2, .ref (B + 202 + 0)), (3, .ref (B + 212)), (4, .ref (B + 213))]) hx hb dL_law_481 hl (by decide) rfl (fun ls hl => ?_)
  refine lv_aload_n hx hb dL_law_483 rfl (lv_at hl 4 rfl) ?_
  refine lv_aload_n hx hb dL_law_484 rfl (lv_at hl 2 rfl) ?_
  refine lv_iload hx hb dL_law_485 (lv_at hl 1 rfl) ?_
  refine lv_iconst (v := 1) hx hb dL_law_487 (by decide) ?_
  refine lv_iadd hx hb dL_law_488 ?_
  refine sc_ld (k := 1) hx hb hX hbl hbB hS hj hL3 (by decide) rfl dL_law_489 ?_
  refine lv_aload_n hx hb dL_law_490 rfl (lv_at hl 2 rfl) ?_
  refine lv_iload hx hb dL_law_491 (lv_at hl 1 rfl) ?_
  refine lv_iconst (v := 2) hx hb dL_law_493 (by decide) ?_
  refine lv_iadd hx hb dL_law_494 ?_
  refine sc_ld (k := 2) hx hb hX hbl hbB hS hj hL3 (by decide) rfl dL_law_495 ?_
  obtain ⟨y1, hc2, hf⟩ := br_some hf
  refine mg_cV (As := [.int (xs (7 * j + 1)), .int (xs (7 * j + 2))]) (rest := []) hx hb hml hown hw hE (mX12_setPower l E B (B + 202) (by omega) M (xs (7 * j + 1)) (xs (7 * j + 2)) y1 hc2) cv_L_182 (w_recv (k := 0) (ci := 12) hE hM (by decide) rfl rfl) hM hS hAB (fun q h => Nat.le_trans (Nat.le_add_right B 202) h.1) rfl hl.1 rfl (by decide) (by decide) (Nat.le_of_ble_eq_true rfl) ⟨by show _ + _ ≤ 600006; omega, by show _ + _ ≤ 7302096; omega⟩ dL_law_496 (fun H locs hM hz hu hS => ?_)
  have hC := CW.off hC hz hu (fun q hq q3 => by obtain ⟨q1, q2⟩ := q3; rcases hq with h | h <;> omega)
  refine lv_istore (lv' := [(7, .int y1.1), (6, .int z1.1), (5, .int (nI (7 * j))), (0, .ref b), (1, .ref (B + 0)), (2, .ref (B + 202 + 0)), (3, .ref (B + 212)), (4, .ref (B + 213))]) hx hb dL_law_499 hl (by decide) rfl (fun ls hl => ?_)
  refine lv_aload_n hx hb dL_law_501 rfl (lv_at hl 5 rfl) ?_
  refine mg_cV (As := []) (rest := []) hx hb hml hown hw hE (mX12_thrown l E B (B + 202) (by omega) y1.2 (y1.2 0 4) rfl) cv_L_172 (w_recv (k := 0) (ci := 12) hE hM (by decide) rfl rfl) hM hS hAB (fun _ h => h.elim) rfl hl.1 rfl (by decide) (by decide) (Nat.le_of_ble_eq_true rfl) ⟨by show _ + _ ≤ 600006; omega, by show _ + _ ≤ 7302096; omega⟩ dL_law_502 (fun H locs hM hz hu hS => ?_)
  have hC := CW.off hC hz hu (fun q hq q3 => q3)
  refine lv_iload hx hb dL_law_505 (lv_at hl 1 rfl) ?_
  obtain ⟨e1, hf⟩ := gd_some hf
  have e1 : y1.2 0 4 = z1.1 := of_decide_eq_true e1
  obtain ⟨e2, hf⟩ := gd_some hf
  have e2 : z1.1 = 0 → z1.2.o = Int32.toInt64 y1.1 := of_decide_eq_true e2
  have hre := Option.some.inj hf
  subst hre
  refine lv_icmp_eq (tgt := 512) hx hb dL_law_507 (by decide) (fun _ => ?_) (fun c9 => absurd e1 c9)
  refine lv_iload hx hb dL_law_512 (lv_at hl 1 rfl) ?_
  have fin : ∀ k9 n9 : Nat, k9 ≤ cs + 40 → n9 ≤ sl + 1000 → W p l e room_1 s m #[Value.ref b] below meth c H locs k9 n9 Q (F0 m 529 ls []) := by
    intro k9 n9 g9 g8
    refine lv_goto (tgt := 2939) hx hb dL_law_529 (by decide) ?_
    refine W.widen (k := cs + 40) (n := sl + 1000) g9 g8 ?_
    exact kk _ _ _ hC hM hS (lv_sub hl [2, 3, 4, 5, 6, 7] rfl)
  refine lv_if_ne (tgt := 529) hx hb dL_law_514 (by decide) (fun _ => fin _ _ (by omega) (by omega)) (fun c8 => ?_)
  have e2 := e2 c8
  obtain ⟨hG, hN, hT, hV, hHs, hQ, hR, hP, hSb, hO, hOd⟩ := hC
  refine lv_aload_n hx hb dL_law_517 rfl (lv_at hl 6 rfl) ?_
  refine lv_iconst (v := 0) hx hb dL_law_518 (by decide) ?_
  rw [e2] at hO
  refine w_lald hx hb hE hO dL_law_519 ?_
  refine lv_iload hx hb dL_law_520 (lv_at hl 0 rfl) ?_
  refine lv_i2l hx hb dL_law_522 rfl ?_
  refine lc_eq hx hb dL_law_523 ?_
  refine lv_if_eq (tgt := 529) hx hb dL_law_524 (by decide) (fun _ => fin _ _ (by omega) (by omega)) (fun c7 => absurd rfl c7)
noncomputable def fC_tune (z : KS) (M : Mem) (p1 : Int32) (p2 : Int32) : Option (KS × Mem) := (fL_tune z p1 p2).bind fun z1 => (fX12_tune M p1 p2).bind fun y1 => gd (decide (y1.2 0 4 = z1.1)) (gd (decide (z1.1 = 0 → z1.2.o = Int32.toInt64 y1.1)) (some (z1.2, y1.2)))
set_option maxHeartbeats 4000000 in
set_option maxRecDepth 100000 in
theorem lawC_tune {p : Program} {l : Launch} {e : Env} {s : State} {m : MethodId} {below : List Frame} {meth : Method} {c : Code} {E : EP} {b L B : Nat} {xs : Nat → Int32} {Q : State → Prop} (X : LC p l e s m meth c E b L B xs) {j : Nat} (hj : 7 * j + 7 ≤ L) {z : KS} {M : Mem} {r : KS × Mem} (hf : fC_tune z M (xs (7 * j + 1)) (xs (7 * j + 2)) = some r) {H : Heap} {locs : List Loc} {ls : Array Slot} {cs sl : Nat} (hcs : cs + 40 ≤ 600006) (hsl : sl + 1000 ≤ 7302096) (hC : CW E B z H) (hM : Blk E (B + 202) modSh 10 M H) (hS : va_S (fun q => B ≤ q) s.heap H locs) (hl : lv_has ls 9 (lawL b B j)) (kk : LK p l e s m below meth c E b B Q j (cs + 40) (sl + 1000) r) : W p l e room_1 s m #[Value.ref b] below meth c H locs cs sl Q (F0 m 532 ls []) := by
  obtain ⟨hx, hb, hml, hown, hw, hE, htr, hX, hbl, hbB, hL3⟩ := X
  have hAB : ∀ q, (fun q => B ≤ q) q → B ≤ q := fun _ h => h
  unfold fC_tune at hf
  refine lv_aload_n hx hb dL_law_532 rfl (lv_at hl 2 rfl) ?_
  refine lv_aload_n hx hb dL_law_533 rfl (lv_at hl 1 rfl) ?_
  refine lv_iload hx hb dL_law_534 (lv_at hl 0 rfl) ?_
  refine lv_iconst (v := 1) hx hb dL_law_536 (by decide) ?_
  refine lv_iadd hx hb dL_law_537 ?_
  refine sc_ld (k := 1) hx hb hX hbl hbB hS hj hL3 (by decide) rfl dL_law_538 ?_
  refine lv_aload_n hx hb dL_law_539 rfl (lv_at hl 1 rfl) ?_
  refine lv_iload hx hb dL_law_540 (lv_at hl 0 rfl) ?_
  refine lv_iconst (v := 2) hx hb dL_law_542 (by decide) ?_
  refine lv_iadd hx hb dL_law_543 ?_
  refine sc_ld (k := 2) hx hb hX hbl hbB hS hj hL3 (by decide) rfl dL_law_544 ?_
  refine lv_aload_n hx hb dL_law_545 rfl (lv_at hl 4 rfl) ?_
  obtain ⟨z1, hc1, hf⟩ := br_some hf
  refine mg_cW (As := [.ref (B + 0), .int (xs (7 * j + 1)), .int (xs (7 * j + 2)), .ref (B + 212)]) (rest := []) hx hb hml hown hw hE (mL_tune l E B htr B (Nat.le_refl B) z (xs (7 * j + 1)) (xs (7 * j + 2)) z1 hc1) cw_L_183 hC hS hAB (cA_ge (Nat.le_refl B)) rfl hl.1 rfl (by decide) (by decide) (Nat.le_of_ble_eq_true rfl) ⟨by show _ + _ ≤ 600006; omega, by show _ + _ ≤ 7302096; omega⟩ dL_law_546 (fun H locs hC hz hu hS => ?_)
  have hM := Blk.off hM hu (fun q q1 q2 q3 => by rcases q3 with h | h <;> omega)
  refine lv_istore (lv' := [(6, .int z1.1), (5, .int (nI (7 * j))), (0, .ref b), (1, .ref (B + 0)), (2, .ref (B + 202 + 0)), (3, .ref (B + 212)), (4, .ref (B + 213))]) hx hb dL_law_549 hl (by decide) rfl (fun ls hl => ?_)
  refine lv_aload_n hx hb dL_law_551 rfl (lv_at hl 4 rfl) ?_
  refine lv_aload_n hx hb dL_law_552 rfl (lv_at hl 2 rfl) ?_
  refine lv_iload hx hb dL_law_553 (lv_at hl 1 rfl) ?_
  refine lv_iconst (v := 1) hx hb dL_law_555 (by decide) ?_
  refine lv_iadd hx hb dL_law_556 ?_
  refine sc_ld (k := 1) hx hb hX hbl hbB hS hj hL3 (by decide) rfl dL_law_557 ?_
  refine lv_aload_n hx hb dL_law_558 rfl (lv_at hl 2 rfl) ?_
  refine lv_iload hx hb dL_law_559 (lv_at hl 1 rfl) ?_
  refine lv_iconst (v := 2) hx hb dL_law_561 (by decide) ?_
  refine lv_iadd hx hb dL_law_562 ?_
  refine sc_ld (k := 2) hx hb hX hbl hbB hS hj hL3 (by decide) rfl dL_law_563 ?_
  obtain ⟨y1, hc2, hf⟩ := br_some hf
  refine mg_cV (As := [.int (xs (7 * j + 1)), .int (xs (7 * j + 2))]) (rest := []) hx hb hml hown hw hE (mX12_tune l E B (B + 202) (by omega) M (xs (7 * j + 1)) (xs (7 * j + 2)) y1 hc2) cv_L_185 (w_recv (k := 0) (ci := 12) hE hM (by decide) rfl rfl) hM hS hAB (fun q h => Nat.le_trans (Nat.le_add_right B 202) h.1) rfl hl.1 rfl (by decide) (by decide) (Nat.le_of_ble_eq_true rfl) ⟨by show _ + _ ≤ 600006; omega, by show _ + _ ≤ 7302096; omega⟩ dL_law_564 (fun H locs hM hz hu hS => ?_)
  have hC := CW.off hC hz hu (fun q hq q3 => by obtain ⟨q1, q2⟩ := q3; rcases hq with h | h <;> omega)
  refine lv_istore (lv' := [(7, .int y1.1), (6, .int z1.1), (5, .int (nI (7 * j))), (0, .ref b), (1, .ref (B + 0)), (2, .ref (B + 202 + 0)), (3, .ref (B + 212)), (4, .ref (B + 213))]) hx hb dL_law_567 hl (by decide) rfl (fun ls hl => ?_)
  refine lv_aload_n hx hb dL_law_569 rfl (lv_at hl 5 rfl) ?_
  refine mg_cV (As := []) (rest := []) hx hb hml hown hw hE (mX12_thrown l E B (B + 202) (by omega) y1.2 (y1.2 0 4) rfl) cv_L_172 (w_recv (k := 0) (ci := 12) hE hM (by decide) rfl rfl) hM hS hAB (fun _ h => h.elim) rfl hl.1 rfl (by decide) (by decide) (Nat.le_of_ble_eq_true rfl) ⟨by show _ + _ ≤ 600006; omega, by show _ + _ ≤ 7302096; omega⟩ dL_law_570 (fun H locs hM hz hu hS => ?_)
  have hC := CW.off hC hz hu (fun q hq q3 => q3)
  refine lv_iload hx hb dL_law_573 (lv_at hl 1 rfl) ?_
  obtain ⟨e1, hf⟩ := gd_some hf
  have e1 : y1.2 0 4 = z1.1 := of_decide_eq_true e1
  obtain ⟨e2, hf⟩ := gd_some hf
  have e2 : z1.1 = 0 → z1.2.o = Int32.toInt64 y1.1 := of_decide_eq_true e2
  have hre := Option.some.inj hf
  subst hre
  refine lv_icmp_eq (tgt := 580) hx hb dL_law_575 (by decide) (fun _ => ?_) (fun c9 => absurd e1 c9)
  refine lv_iload hx hb dL_law_580 (lv_at hl 1 rfl) ?_
  have fin : ∀ k9 n9 : Nat, k9 ≤ cs + 40 → n9 ≤ sl + 1000 → W p l e room_1 s m #[Value.ref b] below meth c H locs k9 n9 Q (F0 m 597 ls []) := by
    intro k9 n9 g9 g8
    refine lv_goto (tgt := 2939) hx hb dL_law_597 (by decide) ?_
    refine W.widen (k := cs + 40) (n := sl + 1000) g9 g8 ?_
    exact kk _ _ _ hC hM hS (lv_sub hl [2, 3, 4, 5, 6, 7] rfl)
  refine lv_if_ne (tgt := 597) hx hb dL_law_582 (by decide) (fun _ => fin _ _ (by omega) (by omega)) (fun c8 => ?_)
  have e2 := e2 c8
  obtain ⟨hG, hN, hT, hV, hHs, hQ, hR, hP, hSb, hO, hOd⟩ := hC
  refine lv_aload_n hx hb dL_law_585 rfl (lv_at hl 6 rfl) ?_
  refine lv_iconst (v := 0) hx hb dL_law_586 (by decide) ?_
  rw [e2] at hO
  refine w_lald hx hb hE hO dL_law_587 ?_
  refine lv_iload hx hb dL_law_588 (lv_at hl 0 rfl) ?_
  refine lv_i2l hx hb dL_law_590 rfl ?_
  refine lc_eq hx hb dL_law_591 ?_
  refine lv_if_eq (tgt := 597) hx hb dL_law_592 (by decide) (fun _ => fin _ _ (by omega) (by omega)) (fun c7 => absurd rfl c7)
noncomputable def fC_request (z : KS) (M : Mem) (p1 : Int32) : Option (KS × Mem) := (fL_request z p1).bind fun z1 => (fX12_request M p1).bind fun y1 => gd (decide (y1.2 0 4 = z1.1)) (gd (decide (z1.1 = 0 → z1.2.o = Int32.toInt64 y1.1)) (some (z1.2, y1.2)))
set_option maxHeartbeats 4000000 in
set_option maxRecDepth 100000 in
theorem lawC_request {p : Program} {l : Launch} {e : Env} {s : State} {m : MethodId} {below : List Frame} {meth : Method} {c : Code} {E : EP} {b L B : Nat} {xs : Nat → Int32} {Q : State → Prop} (X : LC p l e s m meth c E b L B xs) {j : Nat} (hj : 7 * j + 7 ≤ L) {z : KS} {M : Mem} {r : KS × Mem} (hf : fC_request z M (xs (7 * j + 1)) = some r) {H : Heap} {locs : List Loc} {ls : Array Slot} {cs sl : Nat} (hcs : cs + 40 ≤ 600006) (hsl : sl + 1000 ≤ 7302096) (hC : CW E B z H) (hM : Blk E (B + 202) modSh 10 M H) (hS : va_S (fun q => B ≤ q) s.heap H locs) (hl : lv_has ls 9 (lawL b B j)) (kk : LK p l e s m below meth c E b B Q j (cs + 40) (sl + 1000) r) : W p l e room_1 s m #[Value.ref b] below meth c H locs cs sl Q (F0 m 600 ls []) := by
  obtain ⟨hx, hb, hml, hown, hw, hE, htr, hX, hbl, hbB, hL3⟩ := X
  have hAB : ∀ q, (fun q => B ≤ q) q → B ≤ q := fun _ h => h
  unfold fC_request at hf
  refine lv_aload_n hx hb dL_law_600 rfl (lv_at hl 2 rfl) ?_
  refine lv_aload_n hx hb dL_law_601 rfl (lv_at hl 1 rfl) ?_
  refine lv_iload hx hb dL_law_602 (lv_at hl 0 rfl) ?_
  refine lv_iconst (v := 1) hx hb dL_law_604 (by decide) ?_
  refine lv_iadd hx hb dL_law_605 ?_
  refine sc_ld (k := 1) hx hb hX hbl hbB hS hj hL3 (by decide) rfl dL_law_606 ?_
  refine lv_aload_n hx hb dL_law_607 rfl (lv_at hl 4 rfl) ?_
  obtain ⟨z1, hc1, hf⟩ := br_some hf
  refine mg_cW (As := [.ref (B + 0), .int (xs (7 * j + 1)), .ref (B + 212)]) (rest := []) hx hb hml hown hw hE (mL_request l E B htr B (Nat.le_refl B) z (xs (7 * j + 1)) z1 hc1) cw_L_186 hC hS hAB (cA_ge (Nat.le_refl B)) rfl hl.1 rfl (by decide) (by decide) (Nat.le_of_ble_eq_true rfl) ⟨by show _ + _ ≤ 600006; omega, by show _ + _ ≤ 7302096; omega⟩ dL_law_608 (fun H locs hC hz hu hS => ?_)
  have hM := Blk.off hM hu (fun q q1 q2 q3 => by rcases q3 with h | h <;> omega)
  refine lv_istore (lv' := [(6, .int z1.1), (5, .int (nI (7 * j))), (0, .ref b), (1, .ref (B + 0)), (2, .ref (B + 202 + 0)), (3, .ref (B + 212)), (4, .ref (B + 213))]) hx hb dL_law_611 hl (by decide) rfl (fun ls hl => ?_)
  refine lv_aload_n hx hb dL_law_613 rfl (lv_at hl 4 rfl) ?_
  refine lv_aload_n hx hb dL_law_614 rfl (lv_at hl 2 rfl) ?_
  refine lv_iload hx hb dL_law_615 (lv_at hl 1 rfl) ?_
  refine lv_iconst (v := 1) hx hb dL_law_617 (by decide) ?_
  refine lv_iadd hx hb dL_law_618 ?_
  refine sc_ld (k := 1) hx hb hX hbl hbB hS hj hL3 (by decide) rfl dL_law_619 ?_
  obtain ⟨y1, hc2, hf⟩ := br_some hf
  refine mg_cV (As := [.int (xs (7 * j + 1))]) (rest := []) hx hb hml hown hw hE (mX12_request l E B (B + 202) (by omega) M (xs (7 * j + 1)) y1 hc2) cv_L_189 (w_recv (k := 0) (ci := 12) hE hM (by decide) rfl rfl) hM hS hAB (fun q h => Nat.le_trans (Nat.le_add_right B 202) h.1) rfl hl.1 rfl (by decide) (by decide) (Nat.le_of_ble_eq_true rfl) ⟨by show _ + _ ≤ 600006; omega, by show _ + _ ≤ 7302096; omega⟩ dL_law_620 (fun H locs hM hz hu hS => ?_)
  have hC := CW.off hC hz hu (fun q hq q3 => by obtain ⟨q1, q2⟩ := q3; rcases hq with h | h <;> omega)
  refine lv_istore (lv' := [(7, .int y1.1), (6, .int z1.1), (5, .int (nI (7 * j))), (0, .ref b), (1, .ref (B + 0)), (2, .ref (B + 202 + 0)), (3, .ref (B + 212)), (4, .ref (B + 213))]) hx hb dL_law_623 hl (by decide) rfl (fun ls hl => ?_)
  refine lv_aload_n hx hb dL_law_625 rfl (lv_at hl 5 rfl) ?_
  refine mg_cV (As := []) (rest := []) hx hb hml hown hw hE (mX12_thrown l E B (B + 202) (by omega) y1.2 (y1.2 0 4) rfl) cv_L_172 (w_recv (k := 0) (ci := 12) hE hM (by decide) rfl rfl) hM hS hAB (fun _ h => h.elim) rfl hl.1 rfl (by decide) (by decide) (Nat.le_of_ble_eq_true rfl) ⟨by show _ + _ ≤ 600006; omega, by show _ + _ ≤ 7302096; omega⟩ dL_law_626 (fun H locs hM hz hu hS => ?_)
  have hC := CW.off hC hz hu (fun q hq q3 => q3)
  refine lv_iload hx hb dL_law_629 (lv_at hl 1 rfl) ?_
  obtain ⟨e1, hf⟩ := gd_some hf
  have e1 : y1.2 0 4 = z1.1 := of_decide_eq_true e1
  obtain ⟨e2, hf⟩ := gd_some hf
  have e2 : z1.1 = 0 → z1.2.o = Int32.toInt64 y1.1 := of_decide_eq_true e2
  have hre := Option.some.inj hf
  subst hre
  refine lv_icmp_eq (tgt := 636) hx hb dL_law_631 (by decide) (fun _ => ?_) (fun c9 => absurd e1 c9)
  refine lv_iload hx hb dL_law_636 (lv_at hl 1 rfl) ?_
  have fin : ∀ k9 n9 : Nat, k9 ≤ cs + 40 → n9 ≤ sl + 1000 → W p l e room_1 s m #[Value.ref b] below meth c H locs k9 n9 Q (F0 m 653 ls []) := by
    intro k9 n9 g9 g8
    refine lv_goto (tgt := 2939) hx hb dL_law_653 (by decide) ?_
    refine W.widen (k := cs + 40) (n := sl + 1000) g9 g8 ?_
    exact kk _ _ _ hC hM hS (lv_sub hl [2, 3, 4, 5, 6, 7] rfl)
  refine lv_if_ne (tgt := 653) hx hb dL_law_638 (by decide) (fun _ => fin _ _ (by omega) (by omega)) (fun c8 => ?_)
  have e2 := e2 c8
  obtain ⟨hG, hN, hT, hV, hHs, hQ, hR, hP, hSb, hO, hOd⟩ := hC
  refine lv_aload_n hx hb dL_law_641 rfl (lv_at hl 6 rfl) ?_
  refine lv_iconst (v := 0) hx hb dL_law_642 (by decide) ?_
  rw [e2] at hO
  refine w_lald hx hb hE hO dL_law_643 ?_
  refine lv_iload hx hb dL_law_644 (lv_at hl 0 rfl) ?_
  refine lv_i2l hx hb dL_law_646 rfl ?_
  refine lc_eq hx hb dL_law_647 ?_
  refine lv_if_eq (tgt := 653) hx hb dL_law_648 (by decide) (fun _ => fin _ _ (by omega) (by omega)) (fun c7 => absurd rfl c7)
noncomputable def fC_release (z : KS) (M : Mem) (p1 : Int32) : Option (KS × Mem) := (fL_release z p1).bind fun z1 => (fX12_release M p1).bind fun y1 => gd (decide (y1.2 0 4 = z1.1)) (gd (decide (z1.1 = 0 → z1.2.o = Int32.toInt64 y1.1)) (some (z1.2, y1.2)))
set_option maxHeartbeats 4000000 in
set_option maxRecDepth 100000 in
theorem lawC_release {p : Program} {l : Launch} {e : Env} {s : State} {m : MethodId} {below : List Frame} {meth : Method} {c : Code} {E : EP} {b L B : Nat} {xs : Nat → Int32} {Q : State → Prop} (X : LC p l e s m meth c E b L B xs) {j : Nat} (hj : 7 * j + 7 ≤ L) {z : KS} {M : Mem} {r : KS × Mem} (hf : fC_release z M (xs (7 * j + 1)) = some r) {H : Heap} {locs : List Loc} {ls : Array Slot} {cs sl : Nat} (hcs : cs + 40 ≤ 600006) (hsl : sl + 1000 ≤ 7302096) (hC : CW E B z H) (hM : Blk E (B + 202) modSh 10 M H) (hS : va_S (fun q => B ≤ q) s.heap H locs) (hl : lv_has ls 9 (lawL b B j)) (kk : LK p l e s m below meth c E b B Q j (cs + 40) (sl + 1000) r) : W p l e room_1 s m #[Value.ref b] below meth c H locs cs sl Q (F0 m 656 ls []) := by
  obtain ⟨hx, hb, hml, hown, hw, hE, htr, hX, hbl, hbB, hL3⟩ := X
  have hAB : ∀ q, (fun q => B ≤ q) q → B ≤ q := fun _ h => h
  unfold fC_release at hf
  refine lv_aload_n hx hb dL_law_656 rfl (lv_at hl 2 rfl) ?_
  refine lv_aload_n hx hb dL_law_657 rfl (lv_at hl 1 rfl) ?_
  refine lv_iload hx hb dL_law_658 (lv_at hl 0 rfl) ?_
  refine lv_iconst (v := 1) hx hb dL_law_660 (by decide) ?_
  refine lv_iadd hx hb dL_law_661 ?_
  refine sc_ld (k := 1) hx hb hX hbl hbB hS hj hL3 (by decide) rfl dL_law_662 ?_
  refine lv_aload_n hx hb dL_law_663 rfl (lv_at hl 4 rfl) ?_
  obtain ⟨z1, hc1, hf⟩ := br_some hf
  refine mg_cW (As := [.ref (B + 0), .int (xs (7 * j + 1)), .ref (B + 212)]) (rest := []) hx hb hml hown hw hE (mL_release l E B htr B (Nat.le_refl B) z (xs (7 * j + 1)) z1 hc1) cw_L_190 hC hS hAB (cA_ge (Nat.le_refl B)) rfl hl.1 rfl (by decide) (by decide) (Nat.le_of_ble_eq_true rfl) ⟨by show _ + _ ≤ 600006; omega, by show _ + _ ≤ 7302096; omega⟩ dL_law_664 (fun H locs hC hz hu hS => ?_)
  have hM := Blk.off hM hu (fun q q1 q2 q3 => by rcases q3 with h | h <;> omega)
  refine lv_istore (lv' := [(6, .int z1.1), (5, .int (nI (7 * j))), (0, .ref b), (1, .ref (B + 0)), (2, .ref (B + 202 + 0)), (3, .ref (B + 212)), (4, .ref (B + 213))]) hx hb dL_law_667 hl (by decide) rfl (fun ls hl => ?_)
  refine lv_aload_n hx hb dL_law_669 rfl (lv_at hl 4 rfl) ?_
  refine lv_aload_n hx hb dL_law_670 rfl (lv_at hl 2 rfl) ?_
  refine lv_iload hx hb dL_law_671 (lv_at hl 1 rfl) ?_
  refine lv_iconst (v := 1) hx hb dL_law_673 (by decide) ?_
  refine lv_iadd hx hb dL_law_674 ?_
  refine sc_ld (k := 1) hx hb hX hbl hbB hS hj hL3 (by decide) rfl dL_law_675 ?_
  obtain ⟨y1, hc2, hf⟩ := br_some hf
  refine mg_cV (As := [.int (xs (7 * j + 1))]) (rest := []) hx hb hml hown hw hE (mX12_release l E B (B + 202) (by omega) M (xs (7 * j + 1)) y1 hc2) cv_L_192 (w_recv (k := 0) (ci := 12) hE hM (by decide) rfl rfl) hM hS hAB (fun q h => Nat.le_trans (Nat.le_add_right B 202) h.1) rfl hl.1 rfl (by decide) (by decide) (Nat.le_of_ble_eq_true rfl) ⟨by show _ + _ ≤ 600006; omega, by show _ + _ ≤ 7302096; omega⟩ dL_law_676 (fun H locs hM hz hu hS => ?_)
  have hC := CW.off hC hz hu (fun q hq q3 => by obtain ⟨q1, q2⟩ := q3; rcases hq with h | h <;> omega)
  refine lv_istore (lv' := [(7, .int y1.1), (6, .int z1.1), (5, .int (nI (7 * j))), (0, .ref b), (1, .ref (B + 0)), (2, .ref (B + 202 + 0)), (3, .ref (B + 212)), (4, .ref (B + 213))]) hx hb dL_law_679 hl (by decide) rfl (fun ls hl => ?_)
  refine lv_aload_n hx hb dL_law_681 rfl (lv_at hl 5 rfl) ?_
  refine mg_cV (As := []) (rest := []) hx hb hml hown hw hE (mX12_thrown l E B (B + 202) (by omega) y1.2 (y1.2 0 4) rfl) cv_L_172 (w_recv (k := 0) (ci := 12) hE hM (by decide) rfl rfl) hM hS hAB (fun _ h => h.elim) rfl hl.1 rfl (by decide) (by decide) (Nat.le_of_ble_eq_true rfl) ⟨by show _ + _ ≤ 600006; omega, by show _ + _ ≤ 7302096; omega⟩ dL_law_682 (fun H locs hM hz hu hS => ?_)
  have hC := CW.off hC hz hu (fun q hq q3 => q3)
  refine lv_iload hx hb dL_law_685 (lv_at hl 1 rfl) ?_
  obtain ⟨e1, hf⟩ := gd_some hf
  have e1 : y1.2 0 4 = z1.1 := of_decide_eq_true e1
  obtain ⟨e2, hf⟩ := gd_some hf
  have e2 : z1.1 = 0 → z1.2.o = Int32.toInt64 y1.1 := of_decide_eq_true e2
  have hre := Option.some.inj hf
  subst hre
  refine lv_icmp_eq (tgt := 692) hx hb dL_law_687 (by decide) (fun _ => ?_) (fun c9 => absurd e1 c9)
  refine lv_iload hx hb dL_law_692 (lv_at hl 1 rfl) ?_
  have fin : ∀ k9 n9 : Nat, k9 ≤ cs + 40 → n9 ≤ sl + 1000 → W p l e room_1 s m #[Value.ref b] below meth c H locs k9 n9 Q (F0 m 709 ls []) := by
    intro k9 n9 g9 g8
    refine lv_goto (tgt := 2939) hx hb dL_law_709 (by decide) ?_
    refine W.widen (k := cs + 40) (n := sl + 1000) g9 g8 ?_
    exact kk _ _ _ hC hM hS (lv_sub hl [2, 3, 4, 5, 6, 7] rfl)
  refine lv_if_ne (tgt := 709) hx hb dL_law_694 (by decide) (fun _ => fin _ _ (by omega) (by omega)) (fun c8 => ?_)
  have e2 := e2 c8
  obtain ⟨hG, hN, hT, hV, hHs, hQ, hR, hP, hSb, hO, hOd⟩ := hC
  refine lv_aload_n hx hb dL_law_697 rfl (lv_at hl 6 rfl) ?_
  refine lv_iconst (v := 0) hx hb dL_law_698 (by decide) ?_
  rw [e2] at hO
  refine w_lald hx hb hE hO dL_law_699 ?_
  refine lv_iload hx hb dL_law_700 (lv_at hl 0 rfl) ?_
  refine lv_i2l hx hb dL_law_702 rfl ?_
  refine lc_eq hx hb dL_law_703 ?_
  refine lv_if_eq (tgt := 709) hx hb dL_law_704 (by decide) (fun _ => fin _ _ (by omega) (by omega)) (fun c7 => absurd rfl c7)
noncomputable def fC_cancel (z : KS) (M : Mem) (p1 : Int32) : Option (KS × Mem) := (fL_cancel z p1).bind fun z1 => (fX12_cancel M p1).bind fun y1 => gd (decide (y1.2 0 4 = z1.1)) (gd (decide (z1.1 = 0 → z1.2.o = Int32.toInt64 y1.1)) (some (z1.2, y1.2)))
set_option maxHeartbeats 4000000 in
set_option maxRecDepth 100000 in
theorem lawC_cancel {p : Program} {l : Launch} {e : Env} {s : State} {m : MethodId} {below : List Frame} {meth : Method} {c : Code} {E : EP} {b L B : Nat} {xs : Nat → Int32} {Q : State → Prop} (X : LC p l e s m meth c E b L B xs) {j : Nat} (hj : 7 * j + 7 ≤ L) {z : KS} {M : Mem} {r : KS × Mem} (hf : fC_cancel z M (xs (7 * j + 1)) = some r) {H : Heap} {locs : List Loc} {ls : Array Slot} {cs sl : Nat} (hcs : cs + 40 ≤ 600006) (hsl : sl + 1000 ≤ 7302096) (hC : CW E B z H) (hM : Blk E (B + 202) modSh 10 M H) (hS : va_S (fun q => B ≤ q) s.heap H locs) (hl : lv_has ls 9 (lawL b B j)) (kk : LK p l e s m below meth c E b B Q j (cs + 40) (sl + 1000) r) : W p l e room_1 s m #[Value.ref b] below meth c H locs cs sl Q (F0 m 712 ls []) := by
  obtain ⟨hx, hb, hml, hown, hw, hE, htr, hX, hbl, hbB, hL3⟩ := X
  have hAB : ∀ q, (fun q => B ≤ q) q → B ≤ q := fun _ h => h
  unfold fC_cancel at hf
  refine lv_aload_n hx hb dL_law_712 rfl (lv_at hl 2 rfl) ?_
  refine lv_aload_n hx hb dL_law_713 rfl (lv_at hl 1 rfl) ?_
  refine lv_iload hx hb dL_law_714 (lv_at hl 0 rfl) ?_
  refine lv_iconst (v := 1) hx hb dL_law_716 (by decide) ?_
  refine lv_iadd hx hb dL_law_717 ?_
  refine sc_ld (k := 1) hx hb hX hbl hbB hS hj hL3 (by decide) rfl dL_law_718 ?_
  refine lv_aload_n hx hb dL_law_719 rfl (lv_at hl 4 rfl) ?_
  obtain ⟨z1, hc1, hf⟩ := br_some hf
  refine mg_cW (As := [.ref (B + 0), .int (xs (7 * j + 1)), .ref (B + 212)]) (rest := []) hx hb hml hown hw hE (mL_cancel l E B htr B (Nat.le_refl B) z (xs (7 * j + 1)) z1 hc1) cw_L_193 hC hS hAB (cA_ge (Nat.le_refl B)) rfl hl.1 rfl (by decide) (by decide) (Nat.le_of_ble_eq_true rfl) ⟨by show _ + _ ≤ 600006; omega, by show _ + _ ≤ 7302096; omega⟩ dL_law_720 (fun H locs hC hz hu hS => ?_)
  have hM := Blk.off hM hu (fun q q1 q2 q3 => by rcases q3 with h | h <;> omega)
  refine lv_istore (lv' := [(6, .int z1.1), (5, .int (nI (7 * j))), (0, .ref b), (1, .ref (B + 0)), (2, .ref (B + 202 + 0)), (3, .ref (B + 212)), (4, .ref (B + 213))]) hx hb dL_law_723 hl (by decide) rfl (fun ls hl => ?_)
  refine lv_aload_n hx hb dL_law_725 rfl (lv_at hl 4 rfl) ?_
  refine lv_aload_n hx hb dL_law_726 rfl (lv_at hl 2 rfl) ?_
  refine lv_iload hx hb dL_law_727 (lv_at hl 1 rfl) ?_
  refine lv_iconst (v := 1) hx hb dL_law_729 (by decide) ?_
  refine lv_iadd hx hb dL_law_730 ?_
  refine sc_ld (k := 1) hx hb hX hbl hbB hS hj hL3 (by decide) rfl dL_law_731 ?_
  obtain ⟨y1, hc2, hf⟩ := br_some hf
  refine mg_cV (As := [.int (xs (7 * j + 1))]) (rest := []) hx hb hml hown hw hE (mX12_cancel l E B (B + 202) (by omega) M (xs (7 * j + 1)) y1 hc2) cv_L_195 (w_recv (k := 0) (ci := 12) hE hM (by decide) rfl rfl) hM hS hAB (fun q h => Nat.le_trans (Nat.le_add_right B 202) h.1) rfl hl.1 rfl (by decide) (by decide) (Nat.le_of_ble_eq_true rfl) ⟨by show _ + _ ≤ 600006; omega, by show _ + _ ≤ 7302096; omega⟩ dL_law_732 (fun H locs hM hz hu hS => ?_)
  have hC := CW.off hC hz hu (fun q hq q3 => by obtain ⟨q1, q2⟩ := q3; rcases hq with h | h <;> omega)
  refine lv_istore (lv' := [(7, .int y1.1), (6, .int z1.1), (5, .int (nI (7 * j))), (0, .ref b), (1, .ref (B + 0)), (2, .ref (B + 202 + 0)), (3, .ref (B + 212)), (4, .ref (B + 213))]) hx hb dL_law_735 hl (by decide) rfl (fun ls hl => ?_)
  refine lv_aload_n hx hb dL_law_737 rfl (lv_at hl 5 rfl) ?_
  refine mg_cV (As := []) (rest := []) hx hb hml hown hw hE (mX12_thrown l E B (B + 202) (by omega) y1.2 (y1.2 0 4) rfl) cv_L_172 (w_recv (k := 0) (ci := 12) hE hM (by decide) rfl rfl) hM hS hAB (fun _ h => h.elim) rfl hl.1 rfl (by decide) (by decide) (Nat.le_of_ble_eq_true rfl) ⟨by show _ + _ ≤ 600006; omega, by show _ + _ ≤ 7302096; omega⟩ dL_law_738 (fun H locs hM hz hu hS => ?_)
  have hC := CW.off hC hz hu (fun q hq q3 => q3)
  refine lv_iload hx hb dL_law_741 (lv_at hl 1 rfl) ?_
  obtain ⟨e1, hf⟩ := gd_some hf
  have e1 : y1.2 0 4 = z1.1 := of_decide_eq_true e1
  obtain ⟨e2, hf⟩ := gd_some hf
  have e2 : z1.1 = 0 → z1.2.o = Int32.toInt64 y1.1 := of_decide_eq_true e2
  have hre := Option.some.inj hf
  subst hre
  refine lv_icmp_eq (tgt := 748) hx hb dL_law_743 (by decide) (fun _ => ?_) (fun c9 => absurd e1 c9)
  refine lv_iload hx hb dL_law_748 (lv_at hl 1 rfl) ?_
  have fin : ∀ k9 n9 : Nat, k9 ≤ cs + 40 → n9 ≤ sl + 1000 → W p l e room_1 s m #[Value.ref b] below meth c H locs k9 n9 Q (F0 m 765 ls []) := by
    intro k9 n9 g9 g8
    refine lv_goto (tgt := 2939) hx hb dL_law_765 (by decide) ?_
    refine W.widen (k := cs + 40) (n := sl + 1000) g9 g8 ?_
    exact kk _ _ _ hC hM hS (lv_sub hl [2, 3, 4, 5, 6, 7] rfl)
  refine lv_if_ne (tgt := 765) hx hb dL_law_750 (by decide) (fun _ => fin _ _ (by omega) (by omega)) (fun c8 => ?_)
  have e2 := e2 c8
  obtain ⟨hG, hN, hT, hV, hHs, hQ, hR, hP, hSb, hO, hOd⟩ := hC
  refine lv_aload_n hx hb dL_law_753 rfl (lv_at hl 6 rfl) ?_
  refine lv_iconst (v := 0) hx hb dL_law_754 (by decide) ?_
  rw [e2] at hO
  refine w_lald hx hb hE hO dL_law_755 ?_
  refine lv_iload hx hb dL_law_756 (lv_at hl 0 rfl) ?_
  refine lv_i2l hx hb dL_law_758 rfl ?_
  refine lc_eq hx hb dL_law_759 ?_
  refine lv_if_eq (tgt := 765) hx hb dL_law_760 (by decide) (fun _ => fin _ _ (by omega) (by omega)) (fun c7 => absurd rfl c7)
noncomputable def fC_setTurnLimit (z : KS) (M : Mem) (p1 : Int32) : Option (KS × Mem) := (fL_setTurnLimit z p1).bind fun z1 => (fX12_setTurnLimit M p1).bind fun y1 => gd (decide (y1.2 0 4 = z1.1)) (gd (decide (z1.1 = 0 → z1.2.o = Int32.toInt64 y1.1)) (some (z1.2, y1.2)))
set_option maxHeartbeats 4000000 in
set_option maxRecDepth 100000 in
theorem lawC_setTurnLimit {p : Program} {l : Launch} {e : Env} {s : State} {m : MethodId} {below : List Frame} {meth : Method} {c : Code} {E : EP} {b L B : Nat} {xs : Nat → Int32} {Q : State → Prop} (X : LC p l e s m meth c E b L B xs) {j : Nat} (hj : 7 * j + 7 ≤ L) {z : KS} {M : Mem} {r : KS × Mem} (hf : fC_setTurnLimit z M (xs (7 * j + 1)) = some r) {H : Heap} {locs : List Loc} {ls : Array Slot} {cs sl : Nat} (hcs : cs + 40 ≤ 600006) (hsl : sl + 1000 ≤ 7302096) (hC : CW E B z H) (hM : Blk E (B + 202) modSh 10 M H) (hS : va_S (fun q => B ≤ q) s.heap H locs) (hl : lv_has ls 9 (lawL b B j)) (kk : LK p l e s m below meth c E b B Q j (cs + 40) (sl + 1000) r) : W p l e room_1 s m #[Value.ref b] below meth c H locs cs sl Q (F0 m 768 ls []) := by
  obtain ⟨hx, hb, hml, hown, hw, hE, htr, hX, hbl, hbB, hL3⟩ := X
  have hAB : ∀ q, (fun q => B ≤ q) q → B ≤ q := fun _ h => h
  unfold fC_setTurnLimit at hf
  refine lv_aload_n hx hb dL_law_768 rfl (lv_at hl 2 rfl) ?_
  refine lv_aload_n hx hb dL_law_769 rfl (lv_at hl 1 rfl) ?_
  refine lv_iload hx hb dL_law_770 (lv_at hl 0 rfl) ?_
  refine lv_iconst (v := 1) hx hb dL_law_772 (by decide) ?_
  refine lv_iadd hx hb dL_law_773 ?_
  refine sc_ld (k := 1) hx hb hX hbl hbB hS hj hL3 (by decide) rfl dL_law_774 ?_
  refine lv_aload_n hx hb dL_law_775 rfl (lv_at hl 4 rfl) ?_
  obtain ⟨z1, hc1, hf⟩ := br_some hf
  refine mg_cW (As := [.ref (B + 0), .int (xs (7 * j + 1)), .ref (B + 212)]) (rest := []) hx hb hml hown hw hE (mL_setTurnLimit l E B htr B (Nat.le_refl B) z (xs (7 * j + 1)) z1 hc1) cw_L_196 hC hS hAB (cA_ge (Nat.le_refl B)) rfl hl.1 rfl (by decide) (by decide) (Nat.le_of_ble_eq_true rfl) ⟨by show _ + _ ≤ 600006; omega, by show _ + _ ≤ 7302096; omega⟩ dL_law_776 (fun H locs hC hz hu hS => ?_)
  have hM := Blk.off hM hu (fun q q1 q2 q3 => by rcases q3 with h | h <;> omega)
  refine lv_istore (lv' := [(6, .int z1.1), (5, .int (nI (7 * j))), (0, .ref b), (1, .ref (B + 0)), (2, .ref (B + 202 + 0)), (3, .ref (B + 212)), (4, .ref (B + 213))]) hx hb dL_law_779 hl (by decide) rfl (fun ls hl => ?_)
  refine lv_aload_n hx hb dL_law_781 rfl (lv_at hl 4 rfl) ?_
  refine lv_aload_n hx hb dL_law_782 rfl (lv_at hl 2 rfl) ?_
  refine lv_iload hx hb dL_law_783 (lv_at hl 1 rfl) ?_
  refine lv_iconst (v := 1) hx hb dL_law_785 (by decide) ?_
  refine lv_iadd hx hb dL_law_786 ?_
  refine sc_ld (k := 1) hx hb hX hbl hbB hS hj hL3 (by decide) rfl dL_law_787 ?_
  obtain ⟨y1, hc2, hf⟩ := br_some hf
  refine mg_cV (As := [.int (xs (7 * j + 1))]) (rest := []) hx hb hml hown hw hE (mX12_setTurnLimit l E B (B + 202) (by omega) M (xs (7 * j + 1)) y1 hc2) cv_L_198 (w_recv (k := 0) (ci := 12) hE hM (by decide) rfl rfl) hM hS hAB (fun q h => Nat.le_trans (Nat.le_add_right B 202) h.1) rfl hl.1 rfl (by decide) (by decide) (Nat.le_of_ble_eq_true rfl) ⟨by show _ + _ ≤ 600006; omega, by show _ + _ ≤ 7302096; omega⟩ dL_law_788 (fun H locs hM hz hu hS => ?_)
  have hC := CW.off hC hz hu (fun q hq q3 => by obtain ⟨q1, q2⟩ := q3; rcases hq with h | h <;> omega)
  refine lv_istore (lv' := [(7, .int y1.1), (6, .int z1.1), (5, .int (nI (7 * j))), (0, .ref b), (1, .ref (B + 0)), (2, .ref (B + 202 + 0)), (3, .ref (B + 212)), (4, .ref (B + 213))]) hx hb dL_law_791 hl (by decide) rfl (fun ls hl => ?_)
  refine lv_aload_n hx hb dL_law_793 rfl (lv_at hl 5 rfl) ?_
  refine mg_cV (As := []) (rest := []) hx hb hml hown hw hE (mX12_thrown l E B (B + 202) (by omega) y1.2 (y1.2 0 4) rfl) cv_L_172 (w_recv (k := 0) (ci := 12) hE hM (by decide) rfl rfl) hM hS hAB (fun _ h => h.elim) rfl hl.1 rfl (by decide) (by decide) (Nat.le_of_ble_eq_true rfl) ⟨by show _ + _ ≤ 600006; omega, by show _ + _ ≤ 7302096; omega⟩ dL_law_794 (fun H locs hM hz hu hS => ?_)
  have hC := CW.off hC hz hu (fun q hq q3 => q3)
  refine lv_iload hx hb dL_law_797 (lv_at hl 1 rfl) ?_
  obtain ⟨e1, hf⟩ := gd_some hf
  have e1 : y1.2 0 4 = z1.1 := of_decide_eq_true e1
  obtain ⟨e2, hf⟩ := gd_some hf
  have e2 : z1.1 = 0 → z1.2.o = Int32.toInt64 y1.1 := of_decide_eq_true e2
  have hre := Option.some.inj hf
  subst hre
  refine lv_icmp_eq (tgt := 804) hx hb dL_law_799 (by decide) (fun _ => ?_) (fun c9 => absurd e1 c9)
  refine lv_iload hx hb dL_law_804 (lv_at hl 1 rfl) ?_
  have fin : ∀ k9 n9 : Nat, k9 ≤ cs + 40 → n9 ≤ sl + 1000 → W p l e room_1 s m #[Value.ref b] below meth c H locs k9 n9 Q (F0 m 821 ls []) := by
    intro k9 n9 g9 g8
    refine lv_goto (tgt := 2939) hx hb dL_law_821 (by decide) ?_
    refine W.widen (k := cs + 40) (n := sl + 1000) g9 g8 ?_
    exact kk _ _ _ hC hM hS (lv_sub hl [2, 3, 4, 5, 6, 7] rfl)
  refine lv_if_ne (tgt := 821) hx hb dL_law_806 (by decide) (fun _ => fin _ _ (by omega) (by omega)) (fun c8 => ?_)
  have e2 := e2 c8
  obtain ⟨hG, hN, hT, hV, hHs, hQ, hR, hP, hSb, hO, hOd⟩ := hC
  refine lv_aload_n hx hb dL_law_809 rfl (lv_at hl 6 rfl) ?_
  refine lv_iconst (v := 0) hx hb dL_law_810 (by decide) ?_
  rw [e2] at hO
  refine w_lald hx hb hE hO dL_law_811 ?_
  refine lv_iload hx hb dL_law_812 (lv_at hl 0 rfl) ?_
  refine lv_i2l hx hb dL_law_814 rfl ?_
  refine lc_eq hx hb dL_law_815 ?_
  refine lv_if_eq (tgt := 821) hx hb dL_law_816 (by decide) (fun _ => fin _ _ (by omega) (by omega)) (fun c7 => absurd rfl c7)
noncomputable def fC_pass (z : KS) (M : Mem) (p1 : Int32) : Option (KS × Mem) := (fL_pass z p1).bind fun z1 => (fX12_pass M p1).bind fun y1 => gd (decide (y1.2 0 4 = z1.1)) (gd (decide (z1.1 = 0 → z1.2.o = Int32.toInt64 y1.1)) (some (z1.2, y1.2)))
set_option maxHeartbeats 4000000 in
set_option maxRecDepth 100000 in
theorem lawC_pass {p : Program} {l : Launch} {e : Env} {s : State} {m : MethodId} {below : List Frame} {meth : Method} {c : Code} {E : EP} {b L B : Nat} {xs : Nat → Int32} {Q : State → Prop} (X : LC p l e s m meth c E b L B xs) {j : Nat} (hj : 7 * j + 7 ≤ L) {z : KS} {M : Mem} {r : KS × Mem} (hf : fC_pass z M (xs (7 * j + 1)) = some r) {H : Heap} {locs : List Loc} {ls : Array Slot} {cs sl : Nat} (hcs : cs + 40 ≤ 600006) (hsl : sl + 1000 ≤ 7302096) (hC : CW E B z H) (hM : Blk E (B + 202) modSh 10 M H) (hS : va_S (fun q => B ≤ q) s.heap H locs) (hl : lv_has ls 9 (lawL b B j)) (kk : LK p l e s m below meth c E b B Q j (cs + 40) (sl + 1000) r) : W p l e room_1 s m #[Value.ref b] below meth c H locs cs sl Q (F0 m 824 ls []) := by
  obtain ⟨hx, hb, hml, hown, hw, hE, htr, hX, hbl, hbB, hL3⟩ := X
  have hAB : ∀ q, (fun q => B ≤ q) q → B ≤ q := fun _ h => h
  unfold fC_pass at hf
  refine lv_aload_n hx hb dL_law_824 rfl (lv_at hl 2 rfl) ?_
  refine lv_aload_n hx hb dL_law_825 rfl (lv_at hl 1 rfl) ?_
  refine lv_iload hx hb dL_law_826 (lv_at hl 0 rfl) ?_
  refine lv_iconst (v := 1) hx hb dL_law_828 (by decide) ?_
  refine lv_iadd hx hb dL_law_829 ?_
  refine sc_ld (k := 1) hx hb hX hbl hbB hS hj hL3 (by decide) rfl dL_law_830 ?_
  refine lv_aload_n hx hb dL_law_831 rfl (lv_at hl 4 rfl) ?_
  obtain ⟨z1, hc1, hf⟩ := br_some hf
  refine mg_cW (As := [.ref (B + 0), .int (xs (7 * j + 1)), .ref (B + 212)]) (rest := []) hx hb hml hown hw hE (mL_pass l E B htr B (Nat.le_refl B) z (xs (7 * j + 1)) z1 hc1) cw_L_199 hC hS hAB (cA_ge (Nat.le_refl B)) rfl hl.1 rfl (by decide) (by decide) (Nat.le_of_ble_eq_true rfl) ⟨by show _ + _ ≤ 600006; omega, by show _ + _ ≤ 7302096; omega⟩ dL_law_832 (fun H locs hC hz hu hS => ?_)
  have hM := Blk.off hM hu (fun q q1 q2 q3 => by rcases q3 with h | h <;> omega)
  refine lv_istore (lv' := [(6, .int z1.1), (5, .int (nI (7 * j))), (0, .ref b), (1, .ref (B + 0)), (2, .ref (B + 202 + 0)), (3, .ref (B + 212)), (4, .ref (B + 213))]) hx hb dL_law_835 hl (by decide) rfl (fun ls hl => ?_)
  refine lv_aload_n hx hb dL_law_837 rfl (lv_at hl 4 rfl) ?_
  refine lv_aload_n hx hb dL_law_838 rfl (lv_at hl 2 rfl) ?_
  refine lv_iload hx hb dL_law_839 (lv_at hl 1 rfl) ?_
  refine lv_iconst (v := 1) hx hb dL_law_841 (by decide) ?_
  refine lv_iadd hx hb dL_law_842 ?_
  refine sc_ld (k := 1) hx hb hX hbl hbB hS hj hL3 (by decide) rfl dL_law_843 ?_
  obtain ⟨y1, hc2, hf⟩ := br_some hf
  refine mg_cV (As := [.int (xs (7 * j + 1))]) (rest := []) hx hb hml hown hw hE (mX12_pass l E B (B + 202) (by omega) M (xs (7 * j + 1)) y1 hc2) cv_L_201 (w_recv (k := 0) (ci := 12) hE hM (by decide) rfl rfl) hM hS hAB (fun q h => Nat.le_trans (Nat.le_add_right B 202) h.1) rfl hl.1 rfl (by decide) (by decide) (Nat.le_of_ble_eq_true rfl) ⟨by show _ + _ ≤ 600006; omega, by show _ + _ ≤ 7302096; omega⟩ dL_law_844 (fun H locs hM hz hu hS => ?_)
  have hC := CW.off hC hz hu (fun q hq q3 => by obtain ⟨q1, q2⟩ := q3; rcases hq with h | h <;> omega)
  refine lv_istore (lv' := [(7, .int y1.1), (6, .int z1.1), (5, .int (nI (7 * j))), (0, .ref b), (1, .ref (B + 0)), (2, .ref (B + 202 + 0)), (3, .ref (B + 212)), (4, .ref (B + 213))]) hx hb dL_law_847 hl (by decide) rfl (fun ls hl => ?_)
  refine lv_aload_n hx hb dL_law_849 rfl (lv_at hl 5 rfl) ?_
  refine mg_cV (As := []) (rest := []) hx hb hml hown hw hE (mX12_thrown l E B (B + 202) (by omega) y1.2 (y1.2 0 4) rfl) cv_L_172 (w_recv (k := 0) (ci := 12) hE hM (by decide) rfl rfl) hM hS hAB (fun _ h => h.elim) rfl hl.1 rfl (by decide) (by decide) (Nat.le_of_ble_eq_true rfl) ⟨by show _ + _ ≤ 600006; omega, by show _ + _ ≤ 7302096; omega⟩ dL_law_850 (fun H locs hM hz hu hS => ?_)
  have hC := CW.off hC hz hu (fun q hq q3 => q3)
  refine lv_iload hx hb dL_law_853 (lv_at hl 1 rfl) ?_
  obtain ⟨e1, hf⟩ := gd_some hf
  have e1 : y1.2 0 4 = z1.1 := of_decide_eq_true e1
  obtain ⟨e2, hf⟩ := gd_some hf
  have e2 : z1.1 = 0 → z1.2.o = Int32.toInt64 y1.1 := of_decide_eq_true e2
  have hre := Option.some.inj hf
  subst hre
  refine lv_icmp_eq (tgt := 860) hx hb dL_law_855 (by decide) (fun _ => ?_) (fun c9 => absurd e1 c9)
  refine lv_iload hx hb dL_law_860 (lv_at hl 1 rfl) ?_
  have fin : ∀ k9 n9 : Nat, k9 ≤ cs + 40 → n9 ≤ sl + 1000 → W p l e room_1 s m #[Value.ref b] below meth c H locs k9 n9 Q (F0 m 877 ls []) := by
    intro k9 n9 g9 g8
    refine lv_goto (tgt := 2939) hx hb dL_law_877 (by decide) ?_
    refine W.widen (k := cs + 40) (n := sl + 1000) g9 g8 ?_
    exact kk _ _ _ hC hM hS (lv_sub hl [2, 3, 4, 5, 6, 7] rfl)
  refine lv_if_ne (tgt := 877) hx hb dL_law_862 (by decide) (fun _ => fin _ _ (by omega) (by omega)) (fun c8 => ?_)
  have e2 := e2 c8
  obtain ⟨hG, hN, hT, hV, hHs, hQ, hR, hP, hSb, hO, hOd⟩ := hC
  refine lv_aload_n hx hb dL_law_865 rfl (lv_at hl 6 rfl) ?_
  refine lv_iconst (v := 0) hx hb dL_law_866 (by decide) ?_
  rw [e2] at hO
  refine w_lald hx hb hE hO dL_law_867 ?_
  refine lv_iload hx hb dL_law_868 (lv_at hl 0 rfl) ?_
  refine lv_i2l hx hb dL_law_870 rfl ?_
  refine lc_eq hx hb dL_law_871 ?_
  refine lv_if_eq (tgt := 877) hx hb dL_law_872 (by decide) (fun _ => fin _ _ (by omega) (by omega)) (fun c7 => absurd rfl c7)
noncomputable def fC_stations (z : KS) (M : Mem) : Option (KS × Mem) := (fX11_stations z.G z.N).bind fun z1 => (fX12_stations M).bind fun y1 => gd (decide (z1 = y1.1)) (some (z, y1.2))
set_option maxHeartbeats 4000000 in
set_option maxRecDepth 100000 in
theorem lawC_stations {p : Program} {l : Launch} {e : Env} {s : State} {m : MethodId} {below : List Frame} {meth : Method} {c : Code} {E : EP} {b L B : Nat} {xs : Nat → Int32} {Q : State → Prop} (X : LC p l e s m meth c E b L B xs) {j : Nat} (hj : 7 * j + 7 ≤ L) {z : KS} {M : Mem} {r : KS × Mem} (hf : fC_stations z M = some r) {H : Heap} {locs : List Loc} {ls : Array Slot} {cs sl : Nat} (hcs : cs + 40 ≤ 600006) (hsl : sl + 1000 ≤ 7302096) (hC : CW E B z H) (hM : Blk E (B + 202) modSh 10 M H) (hS : va_S (fun q => B ≤ q) s.heap H locs) (hl : lv_has ls 9 (lawL b B j)) (kk : LK p l e s m below meth c E b B Q j (cs + 40) (sl + 1000) r) : W p l e room_1 s m #[Value.ref b] below meth c H locs cs sl Q (F0 m 880 ls []) := by
  obtain ⟨hx, hb, hml, hown, hw, hE, htr, hX, hbl, hbB, hL3⟩ := X
  have hAB : ∀ q, (fun q => B ≤ q) q → B ≤ q := fun _ h => h
  unfold fC_stations at hf
  refine lv_aload_n hx hb dL_law_880 rfl (lv_at hl 2 rfl) ?_
  obtain ⟨hG, hN, hT, hV, hHs, hQ, hR, hP, hSb, hO, hOd⟩ := hC
  obtain ⟨z1, hc1, hf⟩ := br_some hf
  refine mg_cV (As := []) (rest := []) hx hb hml hown hw hE (mX11_stations l E B B (B + 214) (Nat.le_refl B) (by omega) z.G z.N z1 hc1) cv_L_202 (w_recv (k := 0) (ci := 11) hE hG (by decide) rfl rfl) ⟨hG, hN⟩ hS hAB (fun _ h => h.elim) rfl hl.1 rfl (by decide) (by decide) (Nat.le_of_ble_eq_true rfl) ⟨by show _ + _ ≤ 600006; omega, by show _ + _ ≤ 7302096; omega⟩ dL_law_881 (fun H locs hP9 hz hu hS => ?_)
  obtain ⟨hG, hN⟩ := hP9
  have hT := Blk.off hT hu (fun _ _ _ h => h)
  have hV := Blk.off hV hu (fun _ _ _ h => h)
  have hHs := Blk.off hHs hu (fun _ _ _ h => h)
  have hQ := Fam.off hQ hu (fun _ _ _ h => h)
  have hR := Blk.off hR hu (fun _ _ _ h => h)
  have hP := Blk.off hP hu (fun _ _ _ h => h)
  have hSb := SBt.off hSb hz hu (fun _ _ h => h)
  have hO := LO.off hO hu (fun h => h)
  have hOd := LD.off hOd hu (fun h => h)
  have hM := Blk.off hM hu (fun q q1 q2 q3 => q3)
  have hC : CW E B z H := ⟨hG, hN, hT, hV, hHs, hQ, hR, hP, hSb, hO, hOd⟩
  refine lv_aload_n hx hb dL_law_884 rfl (lv_at hl 3 rfl) ?_
  obtain ⟨y1, hc2, hf⟩ := br_some hf
  refine mg_cV (As := []) (rest := [.int z1]) hx hb hml hown hw hE (mX12_stations l E B (B + 202) (by omega) M y1 hc2) cv_L_205 (w_recv (k := 0) (ci := 12) hE hM (by decide) rfl rfl) hM hS hAB (fun q h => Nat.le_trans (Nat.le_add_right B 202) h.1) rfl hl.1 rfl (by decide) (by decide) (Nat.le_of_ble_eq_true rfl) ⟨by show _ + _ ≤ 600006; omega, by show _ + _ ≤ 7302096; omega⟩ dL_law_885 (fun H locs hM hz hu hS => ?_)
  have hC := CW.off hC hz hu (fun q hq q3 => by obtain ⟨q1, q2⟩ := q3; rcases hq with h | h <;> omega)
  obtain ⟨e1, hf⟩ := gd_some hf
  have e1 : z1 = y1.1 := of_decide_eq_true e1
  have hre := Option.some.inj hf
  subst hre
  refine lv_icmp_eq (tgt := 2939) hx hb dL_law_888 (by decide) (fun _ => ?_) (fun c9 => absurd e1 c9)
  refine W.widen (k := cs + 40) (n := sl + 1000) (by omega) (by omega) ?_
  exact kk _ _ _ hC hM hS hl
noncomputable def fC_find (z : KS) (M : Mem) (p1 : Int32) (p2 : Int32) : Option (KS × Mem) := (fL_find z (ch p1) p2).bind fun z1 => (fX12_find M (ch p1) p2).bind fun y1 => gd (decide (y1.2 0 4 = z1.1)) (gd (decide (z1.1 = 0 → z1.2.o = Int32.toInt64 y1.1)) (some (z1.2, y1.2)))
set_option maxHeartbeats 4000000 in
set_option maxRecDepth 100000 in
theorem lawC_find {p : Program} {l : Launch} {e : Env} {s : State} {m : MethodId} {below : List Frame} {meth : Method} {c : Code} {E : EP} {b L B : Nat} {xs : Nat → Int32} {Q : State → Prop} (X : LC p l e s m meth c E b L B xs) {j : Nat} (hj : 7 * j + 7 ≤ L) {z : KS} {M : Mem} {r : KS × Mem} (hf : fC_find z M (xs (7 * j + 1)) (xs (7 * j + 2)) = some r) {H : Heap} {locs : List Loc} {ls : Array Slot} {cs sl : Nat} (hcs : cs + 40 ≤ 600006) (hsl : sl + 1000 ≤ 7302096) (hC : CW E B z H) (hM : Blk E (B + 202) modSh 10 M H) (hS : va_S (fun q => B ≤ q) s.heap H locs) (hl : lv_has ls 9 (lawL b B j)) (kk : LK p l e s m below meth c E b B Q j (cs + 40) (sl + 1000) r) : W p l e room_1 s m #[Value.ref b] below meth c H locs cs sl Q (F0 m 893 ls []) := by
  obtain ⟨hx, hb, hml, hown, hw, hE, htr, hX, hbl, hbB, hL3⟩ := X
  have hAB : ∀ q, (fun q => B ≤ q) q → B ≤ q := fun _ h => h
  unfold fC_find at hf
  refine lv_aload_n hx hb dL_law_893 rfl (lv_at hl 2 rfl) ?_
  refine lv_aload_n hx hb dL_law_894 rfl (lv_at hl 1 rfl) ?_
  refine lv_iload hx hb dL_law_895 (lv_at hl 0 rfl) ?_
  refine lv_iconst (v := 1) hx hb dL_law_897 (by decide) ?_
  refine lv_iadd hx hb dL_law_898 ?_
  refine sc_ld (k := 1) hx hb hX hbl hbB hS hj hL3 (by decide) rfl dL_law_899 ?_
  refine lv_i2c (v := ch (xs (7 * j + 1))) hx hb dL_law_900 rfl ?_
  refine lv_aload_n hx hb dL_law_901 rfl (lv_at hl 1 rfl) ?_
  refine lv_iload hx hb dL_law_902 (lv_at hl 0 rfl) ?_
  refine lv_iconst (v := 2) hx hb dL_law_904 (by decide) ?_
  refine lv_iadd hx hb dL_law_905 ?_
  refine sc_ld (k := 2) hx hb hX hbl hbB hS hj hL3 (by decide) rfl dL_law_906 ?_
  refine lv_aload_n hx hb dL_law_907 rfl (lv_at hl 4 rfl) ?_
  obtain ⟨z1, hc1, hf⟩ := br_some hf
  refine mg_cW (As := [.ref (B + 0), .int (ch (xs (7 * j + 1))), .int (xs (7 * j + 2)), .ref (B + 212)]) (rest := []) hx hb hml hown hw hE (mL_find l E B htr B (Nat.le_refl B) z (ch (xs (7 * j + 1))) (xs (7 * j + 2)) z1 hc1) cw_L_206 hC hS hAB (cA_ge (Nat.le_refl B)) rfl hl.1 rfl (by decide) (by decide) (Nat.le_of_ble_eq_true rfl) ⟨by show _ + _ ≤ 600006; omega, by show _ + _ ≤ 7302096; omega⟩ dL_law_908 (fun H locs hC hz hu hS => ?_)
  have hM := Blk.off hM hu (fun q q1 q2 q3 => by rcases q3 with h | h <;> omega)
  refine lv_istore (lv' := [(6, .int z1.1), (5, .int (nI (7 * j))), (0, .ref b), (1, .ref (B + 0)), (2, .ref (B + 202 + 0)), (3, .ref (B + 212)), (4, .ref (B + 213))]) hx hb dL_law_911 hl (by decide) rfl (fun ls hl => ?_)
  refine lv_aload_n hx hb dL_law_913 rfl (lv_at hl 4 rfl) ?_
  refine lv_aload_n hx hb dL_law_914 rfl (lv_at hl 2 rfl) ?_
  refine lv_iload hx hb dL_law_915 (lv_at hl 1 rfl) ?_
  refine lv_iconst (v := 1) hx hb dL_law_917 (by decide) ?_
  refine lv_iadd hx hb dL_law_918 ?_
  refine sc_ld (k := 1) hx hb hX hbl hbB hS hj hL3 (by decide) rfl dL_law_919 ?_
  refine lv_i2c (v := ch (xs (7 * j + 1))) hx hb dL_law_920 rfl ?_
  refine lv_aload_n hx hb dL_law_921 rfl (lv_at hl 2 rfl) ?_
  refine lv_iload hx hb dL_law_922 (lv_at hl 1 rfl) ?_
  refine lv_iconst (v := 2) hx hb dL_law_924 (by decide) ?_
  refine lv_iadd hx hb dL_law_925 ?_
  refine sc_ld (k := 2) hx hb hX hbl hbB hS hj hL3 (by decide) rfl dL_law_926 ?_
  obtain ⟨y1, hc2, hf⟩ := br_some hf
  refine mg_cV (As := [.int (ch (xs (7 * j + 1))), .int (xs (7 * j + 2))]) (rest := []) hx hb hml hown hw hE (mX12_find l E B (B + 202) (by omega) M (ch (xs (7 * j + 1))) (xs (7 * j + 2)) y1 hc2) cv_L_209 (w_recv (k := 0) (ci := 12) hE hM (by decide) rfl rfl) hM hS hAB (fun q h => Nat.le_trans (Nat.le_add_right B 202) h.1) rfl hl.1 rfl (by decide) (by decide) (Nat.le_of_ble_eq_true rfl) ⟨by show _ + _ ≤ 600006; omega, by show _ + _ ≤ 7302096; omega⟩ dL_law_927 (fun H locs hM hz hu hS => ?_)
  have hC := CW.off hC hz hu (fun q hq q3 => by obtain ⟨q1, q2⟩ := q3; rcases hq with h | h <;> omega)
  refine lv_istore (lv' := [(7, .int y1.1), (6, .int z1.1), (5, .int (nI (7 * j))), (0, .ref b), (1, .ref (B + 0)), (2, .ref (B + 202 + 0)), (3, .ref (B + 212)), (4, .ref (B + 213))]) hx hb dL_law_930 hl (by decide) rfl (fun ls hl => ?_)
  refine lv_aload_n hx hb dL_law_932 rfl (lv_at hl 5 rfl) ?_
  refine mg_cV (As := []) (rest := []) hx hb hml hown hw hE (mX12_thrown l E B (B + 202) (by omega) y1.2 (y1.2 0 4) rfl) cv_L_172 (w_recv (k := 0) (ci := 12) hE hM (by decide) rfl rfl) hM hS hAB (fun _ h => h.elim) rfl hl.1 rfl (by decide) (by decide) (Nat.le_of_ble_eq_true rfl) ⟨by show _ + _ ≤ 600006; omega, by show _ + _ ≤ 7302096; omega⟩ dL_law_933 (fun H locs hM hz hu hS => ?_)
  have hC := CW.off hC hz hu (fun q hq q3 => q3)
  refine lv_iload hx hb dL_law_936 (lv_at hl 1 rfl) ?_
  obtain ⟨e1, hf⟩ := gd_some hf
  have e1 : y1.2 0 4 = z1.1 := of_decide_eq_true e1
  obtain ⟨e2, hf⟩ := gd_some hf
  have e2 : z1.1 = 0 → z1.2.o = Int32.toInt64 y1.1 := of_decide_eq_true e2
  have hre := Option.some.inj hf
  subst hre
  refine lv_icmp_eq (tgt := 943) hx hb dL_law_938 (by decide) (fun _ => ?_) (fun c9 => absurd e1 c9)
  refine lv_iload hx hb dL_law_943 (lv_at hl 1 rfl) ?_
  have fin : ∀ k9 n9 : Nat, k9 ≤ cs + 40 → n9 ≤ sl + 1000 → W p l e room_1 s m #[Value.ref b] below meth c H locs k9 n9 Q (F0 m 960 ls []) := by
    intro k9 n9 g9 g8
    refine lv_goto (tgt := 2939) hx hb dL_law_960 (by decide) ?_
    refine W.widen (k := cs + 40) (n := sl + 1000) g9 g8 ?_
    exact kk _ _ _ hC hM hS (lv_sub hl [2, 3, 4, 5, 6, 7] rfl)
  refine lv_if_ne (tgt := 960) hx hb dL_law_945 (by decide) (fun _ => fin _ _ (by omega) (by omega)) (fun c8 => ?_)
  have e2 := e2 c8
  obtain ⟨hG, hN, hT, hV, hHs, hQ, hR, hP, hSb, hO, hOd⟩ := hC
  refine lv_aload_n hx hb dL_law_948 rfl (lv_at hl 6 rfl) ?_
  refine lv_iconst (v := 0) hx hb dL_law_949 (by decide) ?_
  rw [e2] at hO
  refine w_lald hx hb hE hO dL_law_950 ?_
  refine lv_iload hx hb dL_law_951 (lv_at hl 0 rfl) ?_
  refine lv_i2l hx hb dL_law_953 rfl ?_
  refine lc_eq hx hb dL_law_954 ?_
  refine lv_if_eq (tgt := 960) hx hb dL_law_955 (by decide) (fun _ => fin _ _ (by omega) (by omega)) (fun c7 => absurd rfl c7)
noncomputable def fC_letter (z : KS) (M : Mem) (p1 : Int32) : Option (KS × Mem) := (fL_letter z p1).bind fun z1 => (fX12_letter M p1).bind fun y1 => gd (decide (y1.2 0 4 = z1.1)) (gd (decide (z1.1 = 0 → z1.2.o = Int32.toInt64 y1.1)) (some (z1.2, y1.2)))
set_option maxHeartbeats 4000000 in
set_option maxRecDepth 100000 in
theorem lawC_letter {p : Program} {l : Launch} {e : Env} {s : State} {m : MethodId} {below : List Frame} {meth : Method} {c : Code} {E : EP} {b L B : Nat} {xs : Nat → Int32} {Q : State → Prop} (X : LC p l e s m meth c E b L B xs) {j : Nat} (hj : 7 * j + 7 ≤ L) {z : KS} {M : Mem} {r : KS × Mem} (hf : fC_letter z M (xs (7 * j + 1)) = some r) {H : Heap} {locs : List Loc} {ls : Array Slot} {cs sl : Nat} (hcs : cs + 40 ≤ 600006) (hsl : sl + 1000 ≤ 7302096) (hC : CW E B z H) (hM : Blk E (B + 202) modSh 10 M H) (hS : va_S (fun q => B ≤ q) s.heap H locs) (hl : lv_has ls 9 (lawL b B j)) (kk : LK p l e s m below meth c E b B Q j (cs + 40) (sl + 1000) r) : W p l e room_1 s m #[Value.ref b] below meth c H locs cs sl Q (F0 m 963 ls []) := by
  obtain ⟨hx, hb, hml, hown, hw, hE, htr, hX, hbl, hbB, hL3⟩ := X
  have hAB : ∀ q, (fun q => B ≤ q) q → B ≤ q := fun _ h => h
  unfold fC_letter at hf
  refine lv_aload_n hx hb dL_law_963 rfl (lv_at hl 2 rfl) ?_
  refine lv_aload_n hx hb dL_law_964 rfl (lv_at hl 1 rfl) ?_
  refine lv_iload hx hb dL_law_965 (lv_at hl 0 rfl) ?_
  refine lv_iconst (v := 1) hx hb dL_law_967 (by decide) ?_
  refine lv_iadd hx hb dL_law_968 ?_
  refine sc_ld (k := 1) hx hb hX hbl hbB hS hj hL3 (by decide) rfl dL_law_969 ?_
  refine lv_aload_n hx hb dL_law_970 rfl (lv_at hl 4 rfl) ?_
  obtain ⟨z1, hc1, hf⟩ := br_some hf
  refine mg_cW (As := [.ref (B + 0), .int (xs (7 * j + 1)), .ref (B + 212)]) (rest := []) hx hb hml hown hw hE (mL_letter l E B htr B (Nat.le_refl B) z (xs (7 * j + 1)) z1 hc1) cw_L_210 hC hS hAB (cA_ge (Nat.le_refl B)) rfl hl.1 rfl (by decide) (by decide) (Nat.le_of_ble_eq_true rfl) ⟨by show _ + _ ≤ 600006; omega, by show _ + _ ≤ 7302096; omega⟩ dL_law_971 (fun H locs hC hz hu hS => ?_)
  have hM := Blk.off hM hu (fun q q1 q2 q3 => by rcases q3 with h | h <;> omega)
  refine lv_istore (lv' := [(6, .int z1.1), (5, .int (nI (7 * j))), (0, .ref b), (1, .ref (B + 0)), (2, .ref (B + 202 + 0)), (3, .ref (B + 212)), (4, .ref (B + 213))]) hx hb dL_law_974 hl (by decide) rfl (fun ls hl => ?_)
  refine lv_aload_n hx hb dL_law_976 rfl (lv_at hl 4 rfl) ?_
  refine lv_aload_n hx hb dL_law_977 rfl (lv_at hl 2 rfl) ?_
  refine lv_iload hx hb dL_law_978 (lv_at hl 1 rfl) ?_
  refine lv_iconst (v := 1) hx hb dL_law_980 (by decide) ?_
  refine lv_iadd hx hb dL_law_981 ?_
  refine sc_ld (k := 1) hx hb hX hbl hbB hS hj hL3 (by decide) rfl dL_law_982 ?_
  obtain ⟨y1, hc2, hf⟩ := br_some hf
  refine mg_cV (As := [.int (xs (7 * j + 1))]) (rest := []) hx hb hml hown hw hE (mX12_letter l E B (B + 202) (by omega) M (xs (7 * j + 1)) y1 hc2) cv_L_212 (w_recv (k := 0) (ci := 12) hE hM (by decide) rfl rfl) hM hS hAB (fun q h => Nat.le_trans (Nat.le_add_right B 202) h.1) rfl hl.1 rfl (by decide) (by decide) (Nat.le_of_ble_eq_true rfl) ⟨by show _ + _ ≤ 600006; omega, by show _ + _ ≤ 7302096; omega⟩ dL_law_983 (fun H locs hM hz hu hS => ?_)
  have hC := CW.off hC hz hu (fun q hq q3 => by obtain ⟨q1, q2⟩ := q3; rcases hq with h | h <;> omega)
  refine lv_istore (lv' := [(7, .int y1.1), (6, .int z1.1), (5, .int (nI (7 * j))), (0, .ref b), (1, .ref (B + 0)), (2, .ref (B + 202 + 0)), (3, .ref (B + 212)), (4, .ref (B + 213))]) hx hb dL_law_986 hl (by decide) rfl (fun ls hl => ?_)
  refine lv_aload_n hx hb dL_law_988 rfl (lv_at hl 5 rfl) ?_
  refine mg_cV (As := []) (rest := []) hx hb hml hown hw hE (mX12_thrown l E B (B + 202) (by omega) y1.2 (y1.2 0 4) rfl) cv_L_172 (w_recv (k := 0) (ci := 12) hE hM (by decide) rfl rfl) hM hS hAB (fun _ h => h.elim) rfl hl.1 rfl (by decide) (by decide) (Nat.le_of_ble_eq_true rfl) ⟨by show _ + _ ≤ 600006; omega, by show _ + _ ≤ 7302096; omega⟩ dL_law_989 (fun H locs hM hz hu hS => ?_)
  have hC := CW.off hC hz hu (fun q hq q3 => q3)
  refine lv_iload hx hb dL_law_992 (lv_at hl 1 rfl) ?_
  obtain ⟨e1, hf⟩ := gd_some hf
  have e1 : y1.2 0 4 = z1.1 := of_decide_eq_true e1
  obtain ⟨e2, hf⟩ := gd_some hf
  have e2 : z1.1 = 0 → z1.2.o = Int32.toInt64 y1.1 := of_decide_eq_true e2
  have hre := Option.some.inj hf
  subst hre
  refine lv_icmp_eq (tgt := 999) hx hb dL_law_994 (by decide) (fun _ => ?_) (fun c9 => absurd e1 c9)
  refine lv_iload hx hb dL_law_999 (lv_at hl 1 rfl) ?_
  have fin : ∀ k9 n9 : Nat, k9 ≤ cs + 40 → n9 ≤ sl + 1000 → W p l e room_1 s m #[Value.ref b] below meth c H locs k9 n9 Q (F0 m 1016 ls []) := by
    intro k9 n9 g9 g8
    refine lv_goto (tgt := 2939) hx hb dL_law_1016 (by decide) ?_
    refine W.widen (k := cs + 40) (n := sl + 1000) g9 g8 ?_
    exact kk _ _ _ hC hM hS (lv_sub hl [2, 3, 4, 5, 6, 7] rfl)
  refine lv_if_ne (tgt := 1016) hx hb dL_law_1001 (by decide) (fun _ => fin _ _ (by omega) (by omega)) (fun c8 => ?_)
  have e2 := e2 c8
  obtain ⟨hG, hN, hT, hV, hHs, hQ, hR, hP, hSb, hO, hOd⟩ := hC
  refine lv_aload_n hx hb dL_law_1004 rfl (lv_at hl 6 rfl) ?_
  refine lv_iconst (v := 0) hx hb dL_law_1005 (by decide) ?_
  rw [e2] at hO
  refine w_lald hx hb hE hO dL_law_1006 ?_
  refine lv_iload hx hb dL_law_1007 (lv_at hl 0 rfl) ?_
  refine lv_i2l hx hb dL_law_1009 rfl ?_
  refine lc_eq hx hb dL_law_1010 ?_
  refine lv_if_eq (tgt := 1016) hx hb dL_law_1011 (by decide) (fun _ => fin _ _ (by omega) (by omega)) (fun c7 => absurd rfl c7)
noncomputable def fC_digit (z : KS) (M : Mem) (p1 : Int32) : Option (KS × Mem) := (fL_digit z p1).bind fun z1 => (fX12_digit M p1).bind fun y1 => gd (decide (y1.2 0 4 = z1.1)) (gd (decide (z1.1 = 0 → z1.2.o = Int32.toInt64 y1.1)) (some (z1.2, y1.2)))
set_option maxHeartbeats 4000000 in
set_option maxRecDepth 100000 in
theorem lawC_digit {p : Program} {l : Launch} {e : Env} {s : State} {m : MethodId} {below : List Frame} {meth : Method} {c : Code} {E : EP} {b L B : Nat} {xs : Nat → Int32} {Q : State → Prop} (X : LC p l e s m meth c E b L B xs) {j : Nat} (hj : 7 * j + 7 ≤ L) {z : KS} {M : Mem} {r : KS × Mem} (hf : fC_digit z M (xs (7 * j + 1)) = some r) {H : Heap} {locs : List Loc} {ls : Array Slot} {cs sl : Nat} (hcs : cs + 40 ≤ 600006) (hsl : sl + 1000 ≤ 7302096) (hC : CW E B z H) (hM : Blk E (B + 202) modSh 10 M H) (hS : va_S (fun q => B ≤ q) s.heap H locs) (hl : lv_has ls 9 (lawL b B j)) (kk : LK p l e s m below meth c E b B Q j (cs + 40) (sl + 1000) r) : W p l e room_1 s m #[Value.ref b] below meth c H locs cs sl Q (F0 m 1019 ls []) := by
  obtain ⟨hx, hb, hml, hown, hw, hE, htr, hX, hbl, hbB, hL3⟩ := X
  have hAB : ∀ q, (fun q => B ≤ q) q → B ≤ q := fun _ h => h
  unfold fC_digit at hf
  refine lv_aload_n hx hb dL_law_1019 rfl (lv_at hl 2 rfl) ?_
  refine lv_aload_n hx hb dL_law_1020 rfl (lv_at hl 1 rfl) ?_
  refine lv_iload hx hb dL_law_1021 (lv_at hl 0 rfl) ?_
  refine lv_iconst (v := 1) hx hb dL_law_1023 (by decide) ?_
  refine lv_iadd hx hb dL_law_1024 ?_
  refine sc_ld (k := 1) hx hb hX hbl hbB hS hj hL3 (by decide) rfl dL_law_1025 ?_
  refine lv_aload_n hx hb dL_law_1026 rfl (lv_at hl 4 rfl) ?_
  obtain ⟨z1, hc1, hf⟩ := br_some hf
  refine mg_cW (As := [.ref (B + 0), .int (xs (7 * j + 1)), .ref (B + 212)]) (rest := []) hx hb hml hown hw hE (mL_digit l E B htr B (Nat.le_refl B) z (xs (7 * j + 1)) z1 hc1) cw_L_213 hC hS hAB (cA_ge (Nat.le_refl B)) rfl hl.1 rfl (by decide) (by decide) (Nat.le_of_ble_eq_true rfl) ⟨by show _ + _ ≤ 600006; omega, by show _ + _ ≤ 7302096; omega⟩ dL_law_1027 (fun H locs hC hz hu hS => ?_)
  have hM := Blk.off hM hu (fun q q1 q2 q3 => by rcases q3 with h | h <;> omega)
  refine lv_istore (lv' := [(6, .int z1.1), (5, .int (nI (7 * j))), (0, .ref b), (1, .ref (B + 0)), (2, .ref (B + 202 + 0)), (3, .ref (B + 212)), (4, .ref (B + 213))]) hx hb dL_law_1030 hl (by decide) rfl (fun ls hl => ?_)
  refine lv_aload_n hx hb dL_law_1032 rfl (lv_at hl 4 rfl) ?_
  refine lv_aload_n hx hb dL_law_1033 rfl (lv_at hl 2 rfl) ?_
  refine lv_iload hx hb dL_law_1034 (lv_at hl 1 rfl) ?_
  refine lv_iconst (v := 1) hx hb dL_law_1036 (by decide) ?_
  refine lv_iadd hx hb dL_law_1037 ?_
  refine sc_ld (k := 1) hx hb hX hbl hbB hS hj hL3 (by decide) rfl dL_law_1038 ?_
  obtain ⟨y1, hc2, hf⟩ := br_some hf
  refine mg_cV (As := [.int (xs (7 * j + 1))]) (rest := []) hx hb hml hown hw hE (mX12_digit l E B (B + 202) (by omega) M (xs (7 * j + 1)) y1 hc2) cv_L_215 (w_recv (k := 0) (ci := 12) hE hM (by decide) rfl rfl) hM hS hAB (fun q h => Nat.le_trans (Nat.le_add_right B 202) h.1) rfl hl.1 rfl (by decide) (by decide) (Nat.le_of_ble_eq_true rfl) ⟨by show _ + _ ≤ 600006; omega, by show _ + _ ≤ 7302096; omega⟩ dL_law_1039 (fun H locs hM hz hu hS => ?_)
  have hC := CW.off hC hz hu (fun q hq q3 => by obtain ⟨q1, q2⟩ := q3; rcases hq with h | h <;> omega)
  refine lv_istore (lv' := [(7, .int y1.1), (6, .int z1.1), (5, .int (nI (7 * j))), (0, .ref b), (1, .ref (B + 0)), (2, .ref (B + 202 + 0)), (3, .ref (B + 212)), (4, .ref (B + 213))]) hx hb dL_law_1042 hl (by decide) rfl (fun ls hl => ?_)
  refine lv_aload_n hx hb dL_law_1044 rfl (lv_at hl 5 rfl) ?_
  refine mg_cV (As := []) (rest := []) hx hb hml hown hw hE (mX12_thrown l E B (B + 202) (by omega) y1.2 (y1.2 0 4) rfl) cv_L_172 (w_recv (k := 0) (ci := 12) hE hM (by decide) rfl rfl) hM hS hAB (fun _ h => h.elim) rfl hl.1 rfl (by decide) (by decide) (Nat.le_of_ble_eq_true rfl) ⟨by show _ + _ ≤ 600006; omega, by show _ + _ ≤ 7302096; omega⟩ dL_law_1045 (fun H locs hM hz hu hS => ?_)
  have hC := CW.off hC hz hu (fun q hq q3 => q3)
  refine lv_iload hx hb dL_law_1048 (lv_at hl 1 rfl) ?_
  obtain ⟨e1, hf⟩ := gd_some hf
  have e1 : y1.2 0 4 = z1.1 := of_decide_eq_true e1
  obtain ⟨e2, hf⟩ := gd_some hf
  have e2 : z1.1 = 0 → z1.2.o = Int32.toInt64 y1.1 := of_decide_eq_true e2
  have hre := Option.some.inj hf
  subst hre
  refine lv_icmp_eq (tgt := 1055) hx hb dL_law_1050 (by decide) (fun _ => ?_) (fun c9 => absurd e1 c9)
  refine lv_iload hx hb dL_law_1055 (lv_at hl 1 rfl) ?_
  have fin : ∀ k9 n9 : Nat, k9 ≤ cs + 40 → n9 ≤ sl + 1000 → W p l e room_1 s m #[Value.ref b] below meth c H locs k9 n9 Q (F0 m 1072 ls []) := by
    intro k9 n9 g9 g8
    refine lv_goto (tgt := 2939) hx hb dL_law_1072 (by decide) ?_
    refine W.widen (k := cs + 40) (n := sl + 1000) g9 g8 ?_
    exact kk _ _ _ hC hM hS (lv_sub hl [2, 3, 4, 5, 6, 7] rfl)
  refine lv_if_ne (tgt := 1072) hx hb dL_law_1057 (by decide) (fun _ => fin _ _ (by omega) (by omega)) (fun c8 => ?_)
  have e2 := e2 c8
  obtain ⟨hG, hN, hT, hV, hHs, hQ, hR, hP, hSb, hO, hOd⟩ := hC
  refine lv_aload_n hx hb dL_law_1060 rfl (lv_at hl 6 rfl) ?_
  refine lv_iconst (v := 0) hx hb dL_law_1061 (by decide) ?_
  rw [e2] at hO
  refine w_lald hx hb hE hO dL_law_1062 ?_
  refine lv_iload hx hb dL_law_1063 (lv_at hl 0 rfl) ?_
  refine lv_i2l hx hb dL_law_1065 rfl ?_
  refine lc_eq hx hb dL_law_1066 ?_
  refine lv_if_eq (tgt := 1072) hx hb dL_law_1067 (by decide) (fun _ => fin _ _ (by omega) (by omega)) (fun c7 => absurd rfl c7)
noncomputable def fC_channel (z : KS) (M : Mem) (p1 : Int32) : Option (KS × Mem) := (fL_channel z p1).bind fun z1 => (fX12_channel M p1).bind fun y1 => gd (decide (y1.2 0 4 = z1.1)) (gd (decide (z1.1 = 0 → z1.2.o = Int32.toInt64 y1.1)) (some (z1.2, y1.2)))
set_option maxHeartbeats 4000000 in
set_option maxRecDepth 100000 in
theorem lawC_channel {p : Program} {l : Launch} {e : Env} {s : State} {m : MethodId} {below : List Frame} {meth : Method} {c : Code} {E : EP} {b L B : Nat} {xs : Nat → Int32} {Q : State → Prop} (X : LC p l e s m meth c E b L B xs) {j : Nat} (hj : 7 * j + 7 ≤ L) {z : KS} {M : Mem} {r : KS × Mem} (hf : fC_channel z M (xs (7 * j + 1)) = some r) {H : Heap} {locs : List Loc} {ls : Array Slot} {cs sl : Nat} (hcs : cs + 40 ≤ 600006) (hsl : sl + 1000 ≤ 7302096) (hC : CW E B z H) (hM : Blk E (B + 202) modSh 10 M H) (hS : va_S (fun q => B ≤ q) s.heap H locs) (hl : lv_has ls 9 (lawL b B j)) (kk : LK p l e s m below meth c E b B Q j (cs + 40) (sl + 1000) r) : W p l e room_1 s m #[Value.ref b] below meth c H locs cs sl Q (F0 m 1075 ls []) := by
  obtain ⟨hx, hb, hml, hown, hw, hE, htr, hX, hbl, hbB, hL3⟩ := X
  have hAB : ∀ q, (fun q => B ≤ q) q → B ≤ q := fun _ h => h
  unfold fC_channel at hf
  refine lv_aload_n hx hb dL_law_1075 rfl (lv_at hl 2 rfl) ?_
  refine lv_aload_n hx hb dL_law_1076 rfl (lv_at hl 1 rfl) ?_
  refine lv_iload hx hb dL_law_1077 (lv_at hl 0 rfl) ?_
  refine lv_iconst (v := 1) hx hb dL_law_1079 (by decide) ?_
  refine lv_iadd hx hb dL_law_1080 ?_
  refine sc_ld (k := 1) hx hb hX hbl hbB hS hj hL3 (by decide) rfl dL_law_1081 ?_
  refine lv_aload_n hx hb dL_law_1082 rfl (lv_at hl 4 rfl) ?_
  obtain ⟨z1, hc1, hf⟩ := br_some hf
  refine mg_cW (As := [.ref (B + 0), .int (xs (7 * j + 1)), .ref (B + 212)]) (rest := []) hx hb hml hown hw hE (mL_channel l E B htr B (Nat.le_refl B) z (xs (7 * j + 1)) z1 hc1) cw_L_216 hC hS hAB (cA_ge (Nat.le_refl B)) rfl hl.1 rfl (by decide) (by decide) (Nat.le_of_ble_eq_true rfl) ⟨by show _ + _ ≤ 600006; omega, by show _ + _ ≤ 7302096; omega⟩ dL_law_1083 (fun H locs hC hz hu hS => ?_)
  have hM := Blk.off hM hu (fun q q1 q2 q3 => by rcases q3 with h | h <;> omega)
  refine lv_istore (lv' := [(6, .int z1.1), (5, .int (nI (7 * j))), (0, .ref b), (1, .ref (B + 0)), (2, .ref (B + 202 + 0)), (3, .ref (B + 212)), (4, .ref (B + 213))]) hx hb dL_law_1086 hl (by decide) rfl (fun ls hl => ?_)
  refine lv_aload_n hx hb dL_law_1088 rfl (lv_at hl 4 rfl) ?_
  refine lv_aload_n hx hb dL_law_1089 rfl (lv_at hl 2 rfl) ?_
  refine lv_iload hx hb dL_law_1090 (lv_at hl 1 rfl) ?_
  refine lv_iconst (v := 1) hx hb dL_law_1092 (by decide) ?_
  refine lv_iadd hx hb dL_law_1093 ?_
  refine sc_ld (k := 1) hx hb hX hbl hbB hS hj hL3 (by decide) rfl dL_law_1094 ?_
  obtain ⟨y1, hc2, hf⟩ := br_some hf
  refine mg_cV (As := [.int (xs (7 * j + 1))]) (rest := []) hx hb hml hown hw hE (mX12_channel l E B (B + 202) (by omega) M (xs (7 * j + 1)) y1 hc2) cv_L_218 (w_recv (k := 0) (ci := 12) hE hM (by decide) rfl rfl) hM hS hAB (fun q h => Nat.le_trans (Nat.le_add_right B 202) h.1) rfl hl.1 rfl (by decide) (by decide) (Nat.le_of_ble_eq_true rfl) ⟨by show _ + _ ≤ 600006; omega, by show _ + _ ≤ 7302096; omega⟩ dL_law_1095 (fun H locs hM hz hu hS => ?_)
  have hC := CW.off hC hz hu (fun q hq q3 => by obtain ⟨q1, q2⟩ := q3; rcases hq with h | h <;> omega)
  refine lv_istore (lv' := [(7, .int y1.1), (6, .int z1.1), (5, .int (nI (7 * j))), (0, .ref b), (1, .ref (B + 0)), (2, .ref (B + 202 + 0)), (3, .ref (B + 212)), (4, .ref (B + 213))]) hx hb dL_law_1098 hl (by decide) rfl (fun ls hl => ?_)
  refine lv_aload_n hx hb dL_law_1100 rfl (lv_at hl 5 rfl) ?_
  refine mg_cV (As := []) (rest := []) hx hb hml hown hw hE (mX12_thrown l E B (B + 202) (by omega) y1.2 (y1.2 0 4) rfl) cv_L_172 (w_recv (k := 0) (ci := 12) hE hM (by decide) rfl rfl) hM hS hAB (fun _ h => h.elim) rfl hl.1 rfl (by decide) (by decide) (Nat.le_of_ble_eq_true rfl) ⟨by show _ + _ ≤ 600006; omega, by show _ + _ ≤ 7302096; omega⟩ dL_law_1101 (fun H locs hM hz hu hS => ?_)
  have hC := CW.off hC hz hu (fun q hq q3 => q3)
  refine lv_iload hx hb dL_law_1104 (lv_at hl 1 rfl) ?_
  obtain ⟨e1, hf⟩ := gd_some hf
  have e1 : y1.2 0 4 = z1.1 := of_decide_eq_true e1
  obtain ⟨e2, hf⟩ := gd_some hf
  have e2 : z1.1 = 0 → z1.2.o = Int32.toInt64 y1.1 := of_decide_eq_true e2
  have hre := Option.some.inj hf
  subst hre
  refine lv_icmp_eq (tgt := 1111) hx hb dL_law_1106 (by decide) (fun _ => ?_) (fun c9 => absurd e1 c9)
  refine lv_iload hx hb dL_law_1111 (lv_at hl 1 rfl) ?_
  have fin : ∀ k9 n9 : Nat, k9 ≤ cs + 40 → n9 ≤ sl + 1000 → W p l e room_1 s m #[Value.ref b] below meth c H locs k9 n9 Q (F0 m 1128 ls []) := by
    intro k9 n9 g9 g8
    refine lv_goto (tgt := 2939) hx hb dL_law_1128 (by decide) ?_
    refine W.widen (k := cs + 40) (n := sl + 1000) g9 g8 ?_
    exact kk _ _ _ hC hM hS (lv_sub hl [2, 3, 4, 5, 6, 7] rfl)
  refine lv_if_ne (tgt := 1128) hx hb dL_law_1113 (by decide) (fun _ => fin _ _ (by omega) (by omega)) (fun c8 => ?_)
  have e2 := e2 c8
  obtain ⟨hG, hN, hT, hV, hHs, hQ, hR, hP, hSb, hO, hOd⟩ := hC
  refine lv_aload_n hx hb dL_law_1116 rfl (lv_at hl 6 rfl) ?_
  refine lv_iconst (v := 0) hx hb dL_law_1117 (by decide) ?_
  rw [e2] at hO
  refine w_lald hx hb hE hO dL_law_1118 ?_
  refine lv_iload hx hb dL_law_1119 (lv_at hl 0 rfl) ?_
  refine lv_i2l hx hb dL_law_1121 rfl ?_
  refine lc_eq hx hb dL_law_1122 ?_
  refine lv_if_eq (tgt := 1128) hx hb dL_law_1123 (by decide) (fun _ => fin _ _ (by omega) (by omega)) (fun c7 => absurd rfl c7)
noncomputable def fC_power (z : KS) (M : Mem) (p1 : Int32) : Option (KS × Mem) := (fL_power z p1).bind fun z1 => (fX12_power M p1).bind fun y1 => gd (decide (y1.2 0 4 = z1.1)) (gd (decide (z1.1 = 0 → z1.2.o = Int32.toInt64 y1.1)) (some (z1.2, y1.2)))
set_option maxHeartbeats 4000000 in
set_option maxRecDepth 100000 in
theorem lawC_power {p : Program} {l : Launch} {e : Env} {s : State} {m : MethodId} {below : List Frame} {meth : Method} {c : Code} {E : EP} {b L B : Nat} {xs : Nat → Int32} {Q : State → Prop} (X : LC p l e s m meth c E b L B xs) {j : Nat} (hj : 7 * j + 7 ≤ L) {z : KS} {M : Mem} {r : KS × Mem} (hf : fC_power z M (xs (7 * j + 1)) = some r) {H : Heap} {locs : List Loc} {ls : Array Slot} {cs sl : Nat} (hcs : cs + 40 ≤ 600006) (hsl : sl + 1000 ≤ 7302096) (hC : CW E B z H) (hM : Blk E (B + 202) modSh 10 M H) (hS : va_S (fun q => B ≤ q) s.heap H locs) (hl : lv_has ls 9 (lawL b B j)) (kk : LK p l e s m below meth c E b B Q j (cs + 40) (sl + 1000) r) : W p l e room_1 s m #[Value.ref b] below meth c H locs cs sl Q (F0 m 1131 ls []) := by
  obtain ⟨hx, hb, hml, hown, hw, hE, htr, hX, hbl, hbB, hL3⟩ := X
  have hAB : ∀ q, (fun q => B ≤ q) q → B ≤ q := fun _ h => h
  unfold fC_power at hf
  refine lv_aload_n hx hb dL_law_1131 rfl (lv_at hl 2 rfl) ?_
  refine lv_aload_n hx hb dL_law_1132 rfl (lv_at hl 1 rfl) ?_
  refine lv_iload hx hb dL_law_1133 (lv_at hl 0 rfl) ?_
  refine lv_iconst (v := 1) hx hb dL_law_1135 (by decide) ?_
  refine lv_iadd hx hb dL_law_1136 ?_
  refine sc_ld (k := 1) hx hb hX hbl hbB hS hj hL3 (by decide) rfl dL_law_1137 ?_
  refine lv_aload_n hx hb dL_law_1138 rfl (lv_at hl 4 rfl) ?_
  obtain ⟨z1, hc1, hf⟩ := br_some hf
  refine mg_cW (As := [.ref (B + 0), .int (xs (7 * j + 1)), .ref (B + 212)]) (rest := []) hx hb hml hown hw hE (mL_power l E B htr B (Nat.le_refl B) z (xs (7 * j + 1)) z1 hc1) cw_L_219 hC hS hAB (cA_ge (Nat.le_refl B)) rfl hl.1 rfl (by decide) (by decide) (Nat.le_of_ble_eq_true rfl) ⟨by show _ + _ ≤ 600006; omega, by show _ + _ ≤ 7302096; omega⟩ dL_law_1139 (fun H locs hC hz hu hS => ?_)
  have hM := Blk.off hM hu (fun q q1 q2 q3 => by rcases q3 with h | h <;> omega)
  refine lv_istore (lv' := [(6, .int z1.1), (5, .int (nI (7 * j))), (0, .ref b), (1, .ref (B + 0)), (2, .ref (B + 202 + 0)), (3, .ref (B + 212)), (4, .ref (B + 213))]) hx hb dL_law_1142 hl (by decide) rfl (fun ls hl => ?_)
  refine lv_aload_n hx hb dL_law_1144 rfl (lv_at hl 4 rfl) ?_
  refine lv_aload_n hx hb dL_law_1145 rfl (lv_at hl 2 rfl) ?_
  refine lv_iload hx hb dL_law_1146 (lv_at hl 1 rfl) ?_
  refine lv_iconst (v := 1) hx hb dL_law_1148 (by decide) ?_
  refine lv_iadd hx hb dL_law_1149 ?_
  refine sc_ld (k := 1) hx hb hX hbl hbB hS hj hL3 (by decide) rfl dL_law_1150 ?_
  obtain ⟨y1, hc2, hf⟩ := br_some hf
  refine mg_cV (As := [.int (xs (7 * j + 1))]) (rest := []) hx hb hml hown hw hE (mX12_power l E B (B + 202) (by omega) M (xs (7 * j + 1)) y1 hc2) cv_L_221 (w_recv (k := 0) (ci := 12) hE hM (by decide) rfl rfl) hM hS hAB (fun q h => Nat.le_trans (Nat.le_add_right B 202) h.1) rfl hl.1 rfl (by decide) (by decide) (Nat.le_of_ble_eq_true rfl) ⟨by show _ + _ ≤ 600006; omega, by show _ + _ ≤ 7302096; omega⟩ dL_law_1151 (fun H locs hM hz hu hS => ?_)
  have hC := CW.off hC hz hu (fun q hq q3 => by obtain ⟨q1, q2⟩ := q3; rcases hq with h | h <;> omega)
  refine lv_istore (lv' := [(7, .int y1.1), (6, .int z1.1), (5, .int (nI (7 * j))), (0, .ref b), (1, .ref (B + 0)), (2, .ref (B + 202 + 0)), (3, .ref (B + 212)), (4, .ref (B + 213))]) hx hb dL_law_1154 hl (by decide) rfl (fun ls hl => ?_)
  refine lv_aload_n hx hb dL_law_1156 rfl (lv_at hl 5 rfl) ?_
  refine mg_cV (As := []) (rest := []) hx hb hml hown hw hE (mX12_thrown l E B (B + 202) (by omega) y1.2 (y1.2 0 4) rfl) cv_L_172 (w_recv (k := 0) (ci := 12) hE hM (by decide) rfl rfl) hM hS hAB (fun _ h => h.elim) rfl hl.1 rfl (by decide) (by decide) (Nat.le_of_ble_eq_true rfl) ⟨by show _ + _ ≤ 600006; omega, by show _ + _ ≤ 7302096; omega⟩ dL_law_1157 (fun H locs hM hz hu hS => ?_)
  have hC := CW.off hC hz hu (fun q hq q3 => q3)
  refine lv_iload hx hb dL_law_1160 (lv_at hl 1 rfl) ?_
  obtain ⟨e1, hf⟩ := gd_some hf
  have e1 : y1.2 0 4 = z1.1 := of_decide_eq_true e1
  obtain ⟨e2, hf⟩ := gd_some hf
  have e2 : z1.1 = 0 → z1.2.o = Int32.toInt64 y1.1 := of_decide_eq_true e2
  have hre := Option.some.inj hf
  subst hre
  refine lv_icmp_eq (tgt := 1167) hx hb dL_law_1162 (by decide) (fun _ => ?_) (fun c9 => absurd e1 c9)
  refine lv_iload hx hb dL_law_1167 (lv_at hl 1 rfl) ?_
  have fin : ∀ k9 n9 : Nat, k9 ≤ cs + 40 → n9 ≤ sl + 1000 → W p l e room_1 s m #[Value.ref b] below meth c H locs k9 n9 Q (F0 m 1184 ls []) := by
    intro k9 n9 g9 g8
    refine lv_goto (tgt := 2939) hx hb dL_law_1184 (by decide) ?_
    refine W.widen (k := cs + 40) (n := sl + 1000) g9 g8 ?_
    exact kk _ _ _ hC hM hS (lv_sub hl [2, 3, 4, 5, 6, 7] rfl)
  refine lv_if_ne (tgt := 1184) hx hb dL_law_1169 (by decide) (fun _ => fin _ _ (by omega) (by omega)) (fun c8 => ?_)
  have e2 := e2 c8
  obtain ⟨hG, hN, hT, hV, hHs, hQ, hR, hP, hSb, hO, hOd⟩ := hC
  refine lv_aload_n hx hb dL_law_1172 rfl (lv_at hl 6 rfl) ?_
  refine lv_iconst (v := 0) hx hb dL_law_1173 (by decide) ?_
  rw [e2] at hO
  refine w_lald hx hb hE hO dL_law_1174 ?_
  refine lv_iload hx hb dL_law_1175 (lv_at hl 0 rfl) ?_
  refine lv_i2l hx hb dL_law_1177 rfl ?_
  refine lc_eq hx hb dL_law_1178 ?_
  refine lv_if_eq (tgt := 1184) hx hb dL_law_1179 (by decide) (fun _ => fin _ _ (by omega) (by omega)) (fun c7 => absurd rfl c7)
noncomputable def fC_isSpeaking (z : KS) (M : Mem) (p1 : Int32) : Option (KS × Mem) := (fL_isSpeaking z p1).bind fun z1 => (fX12_isSpeaking M p1).bind fun y1 => gd (isZ y1.1) (gd (decide (y1.2 0 4 = z1.1)) (gd (decide (z1.1 = 0 → z1.2.o = Int32.toInt64 y1.1)) (some (z1.2, y1.2))))
set_option maxHeartbeats 4000000 in
set_option maxRecDepth 100000 in
theorem lawC_isSpeaking {p : Program} {l : Launch} {e : Env} {s : State} {m : MethodId} {below : List Frame} {meth : Method} {c : Code} {E : EP} {b L B : Nat} {xs : Nat → Int32} {Q : State → Prop} (X : LC p l e s m meth c E b L B xs) {j : Nat} (hj : 7 * j + 7 ≤ L) {z : KS} {M : Mem} {r : KS × Mem} (hf : fC_isSpeaking z M (xs (7 * j + 1)) = some r) {H : Heap} {locs : List Loc} {ls : Array Slot} {cs sl : Nat} (hcs : cs + 40 ≤ 600006) (hsl : sl + 1000 ≤ 7302096) (hC : CW E B z H) (hM : Blk E (B + 202) modSh 10 M H) (hS : va_S (fun q => B ≤ q) s.heap H locs) (hl : lv_has ls 9 (lawL b B j)) (kk : LK p l e s m below meth c E b B Q j (cs + 40) (sl + 1000) r) : W p l e room_1 s m #[Value.ref b] below meth c H locs cs sl Q (F0 m 1187 ls []) := by
  obtain ⟨hx, hb, hml, hown, hw, hE, htr, hX, hbl, hbB, hL3⟩ := X
  have hAB : ∀ q, (fun q => B ≤ q) q → B ≤ q := fun _ h => h
  unfold fC_isSpeaking at hf
  refine lv_aload_n hx hb dL_law_1187 rfl (lv_at hl 2 rfl) ?_
  refine lv_aload_n hx hb dL_law_1188 rfl (lv_at hl 1 rfl) ?_
  refine lv_iload hx hb dL_law_1189 (lv_at hl 0 rfl) ?_
  refine lv_iconst (v := 1) hx hb dL_law_1191 (by decide) ?_
  refine lv_iadd hx hb dL_law_1192 ?_
  refine sc_ld (k := 1) hx hb hX hbl hbB hS hj hL3 (by decide) rfl dL_law_1193 ?_
  refine lv_aload_n hx hb dL_law_1194 rfl (lv_at hl 4 rfl) ?_
  obtain ⟨z1, hc1, hf⟩ := br_some hf
  refine mg_cW (As := [.ref (B + 0), .int (xs (7 * j + 1)), .ref (B + 212)]) (rest := []) hx hb hml hown hw hE (mL_isSpeaking l E B htr B (Nat.le_refl B) z (xs (7 * j + 1)) z1 hc1) cw_L_222 hC hS hAB (cA_ge (Nat.le_refl B)) rfl hl.1 rfl (by decide) (by decide) (Nat.le_of_ble_eq_true rfl) ⟨by show _ + _ ≤ 600006; omega, by show _ + _ ≤ 7302096; omega⟩ dL_law_1195 (fun H locs hC hz hu hS => ?_)
  have hM := Blk.off hM hu (fun q q1 q2 q3 => by rcases q3 with h | h <;> omega)
  refine lv_istore (lv' := [(6, .int z1.1), (5, .int (nI (7 * j))), (0, .ref b), (1, .ref (B + 0)), (2, .ref (B + 202 + 0)), (3, .ref (B + 212)), (4, .ref (B + 213))]) hx hb dL_law_1198 hl (by decide) rfl (fun ls hl => ?_)
  refine lv_aload_n hx hb dL_law_1200 rfl (lv_at hl 4 rfl) ?_
  refine lv_aload_n hx hb dL_law_1201 rfl (lv_at hl 2 rfl) ?_
  refine lv_iload hx hb dL_law_1202 (lv_at hl 1 rfl) ?_
  refine lv_iconst (v := 1) hx hb dL_law_1204 (by decide) ?_
  refine lv_iadd hx hb dL_law_1205 ?_
  refine sc_ld (k := 1) hx hb hX hbl hbB hS hj hL3 (by decide) rfl dL_law_1206 ?_
  obtain ⟨y1, hc2, hf⟩ := br_some hf
  refine mg_cV (As := [.int (xs (7 * j + 1))]) (rest := []) hx hb hml hown hw hE (mX12_isSpeaking l E B (B + 202) (by omega) M (xs (7 * j + 1)) y1 hc2) cv_L_224 (w_recv (k := 0) (ci := 12) hE hM (by decide) rfl rfl) hM hS hAB (fun q h => Nat.le_trans (Nat.le_add_right B 202) h.1) rfl hl.1 rfl (by decide) (by decide) (Nat.le_of_ble_eq_true rfl) ⟨by show _ + _ ≤ 600006; omega, by show _ + _ ≤ 7302096; omega⟩ dL_law_1207 (fun H locs hM hz hu hS => ?_)
  have hC := CW.off hC hz hu (fun q hq q3 => by obtain ⟨q1, q2⟩ := q3; rcases hq with h | h <;> omega)
  refine lv_istore (lv' := [(7, .int y1.1), (6, .int z1.1), (5, .int (nI (7 * j))), (0, .ref b), (1, .ref (B + 0)), (2, .ref (B + 202 + 0)), (3, .ref (B + 212)), (4, .ref (B + 213))]) hx hb dL_law_1210 hl (by decide) rfl (fun ls hl => ?_)
  refine lv_aload_n hx hb dL_law_1212 rfl (lv_at hl 5 rfl) ?_
  refine mg_cV (As := []) (rest := []) hx hb hml hown hw hE (mX12_thrown l E B (B + 202) (by omega) y1.2 (y1.2 0 4) rfl) cv_L_172 (w_recv (k := 0) (ci := 12) hE hM (by decide) rfl rfl) hM hS hAB (fun _ h => h.elim) rfl hl.1 rfl (by decide) (by decide) (Nat.le_of_ble_eq_true rfl) ⟨by show _ + _ ≤ 600006; omega, by show _ + _ ≤ 7302096; omega⟩ dL_law_1213 (fun H locs hM hz hu hS => ?_)
  have hC := CW.off hC hz hu (fun q hq q3 => q3)
  refine lv_iload hx hb dL_law_1216 (lv_at hl 1 rfl) ?_
  obtain ⟨hz1, hf⟩ := gd_some hf
  obtain ⟨e1, hf⟩ := gd_some hf
  have e1 : y1.2 0 4 = z1.1 := of_decide_eq_true e1
  obtain ⟨e2, hf⟩ := gd_some hf
  have e2 : z1.1 = 0 → z1.2.o = Int32.toInt64 y1.1 := of_decide_eq_true e2
  have hre := Option.some.inj hf
  subst hre
  refine lv_icmp_eq (tgt := 1223) hx hb dL_law_1218 (by decide) (fun _ => ?_) (fun c9 => absurd e1 c9)
  refine lv_iload hx hb dL_law_1223 (lv_at hl 1 rfl) ?_
  have fin : ∀ k9 n9 : Nat, k9 ≤ cs + 40 → n9 ≤ sl + 1000 → W p l e room_1 s m #[Value.ref b] below meth c H locs k9 n9 Q (F0 m 1247 ls []) := by
    intro k9 n9 g9 g8
    refine lv_goto (tgt := 2939) hx hb dL_law_1247 (by decide) ?_
    refine W.widen (k := cs + 40) (n := sl + 1000) g9 g8 ?_
    exact kk _ _ _ hC hM hS (lv_sub hl [2, 3, 4, 5, 6, 7] rfl)
  refine lv_if_ne (tgt := 1247) hx hb dL_law_1225 (by decide) (fun _ => fin _ _ (by omega) (by omega)) (fun c8 => ?_)
  have e2 := e2 c8
  obtain ⟨hG, hN, hT, hV, hHs, hQ, hR, hP, hSb, hO, hOd⟩ := hC
  refine lv_aload_n hx hb dL_law_1228 rfl (lv_at hl 6 rfl) ?_
  refine lv_iconst (v := 0) hx hb dL_law_1229 (by decide) ?_
  rw [e2] at hO
  refine w_lald hx hb hE hO dL_law_1230 ?_
  refine lv_iload hx hb dL_law_1231 (lv_at hl 0 rfl) ?_
  refine lv_if_eq (tgt := 1240) hx hb dL_law_1233 (by decide) (fun c6 => ?_) (fun c6 => ?_)
  · have h0 : Int32.toInt64 y1.1 = 0 := by rw [c6]; rfl
    rw [h0] at e2 ⊢
    refine lv_lconst (v := 0) hx hb dL_law_1240 rfl ?_
    refine lc_eq hx hb dL_law_1241 ?_
    refine lv_if_eq (tgt := 1247) hx hb dL_law_1242 (by decide) (fun _ => fin _ _ (by omega) (by omega)) (fun c7 => absurd rfl c7)
  · have h1 : Int32.toInt64 y1.1 = 1 := b1 hz1 c6
    rw [h1] at e2 ⊢
    refine lv_lconst (v := 1) hx hb dL_law_1236 rfl ?_
    refine lv_goto (tgt := 1241) hx hb dL_law_1237 (by decide) ?_
    refine lc_eq hx hb dL_law_1241 ?_
    refine lv_if_eq (tgt := 1247) hx hb dL_law_1242 (by decide) (fun _ => fin _ _ (by omega) (by omega)) (fun c7 => absurd rfl c7)
noncomputable def fC_isWaiting (z : KS) (M : Mem) (p1 : Int32) : Option (KS × Mem) := (fL_isWaiting z p1).bind fun z1 => (fX12_isWaiting M p1).bind fun y1 => gd (isZ y1.1) (gd (decide (y1.2 0 4 = z1.1)) (gd (decide (z1.1 = 0 → z1.2.o = Int32.toInt64 y1.1)) (some (z1.2, y1.2))))
set_option maxHeartbeats 4000000 in
set_option maxRecDepth 100000 in
theorem lawC_isWaiting {p : Program} {l : Launch} {e : Env} {s : State} {m : MethodId} {below : List Frame} {meth : Method} {c : Code} {E : EP} {b L B : Nat} {xs : Nat → Int32} {Q : State → Prop} (X : LC p l e s m meth c E b L B xs) {j : Nat} (hj : 7 * j + 7 ≤ L) {z : KS} {M : Mem} {r : KS × Mem} (hf : fC_isWaiting z M (xs (7 * j + 1)) = some r) {H : Heap} {locs : List Loc} {ls : Array Slot} {cs sl : Nat} (hcs : cs + 40 ≤ 600006) (hsl : sl + 1000 ≤ 7302096) (hC : CW E B z H) (hM : Blk E (B + 202) modSh 10 M H) (hS : va_S (fun q => B ≤ q) s.heap H locs) (hl : lv_has ls 9 (lawL b B j)) (kk : LK p l e s m below meth c E b B Q j (cs + 40) (sl + 1000) r) : W p l e room_1 s m #[Value.ref b] below meth c H locs cs sl Q (F0 m 1250 ls []) := by
  obtain ⟨hx, hb, hml, hown, hw, hE, htr, hX, hbl, hbB, hL3⟩ := X
  have hAB : ∀ q, (fun q => B ≤ q) q → B ≤ q := fun _ h => h
  unfold fC_isWaiting at hf
  refine lv_aload_n hx hb dL_law_1250 rfl (lv_at hl 2 rfl) ?_
  refine lv_aload_n hx hb dL_law_1251 rfl (lv_at hl 1 rfl) ?_
  refine lv_iload hx hb dL_law_1252 (lv_at hl 0 rfl) ?_
  refine lv_iconst (v := 1) hx hb dL_law_1254 (by decide) ?_
  refine lv_iadd hx hb dL_law_1255 ?_
  refine sc_ld (k := 1) hx hb hX hbl hbB hS hj hL3 (by decide) rfl dL_law_1256 ?_
  refine lv_aload_n hx hb dL_law_1257 rfl (lv_at hl 4 rfl) ?_
  obtain ⟨z1, hc1, hf⟩ := br_some hf
  refine mg_cW (As := [.ref (B + 0), .int (xs (7 * j + 1)), .ref (B + 212)]) (rest := []) hx hb hml hown hw hE (mL_isWaiting l E B htr B (Nat.le_refl B) z (xs (7 * j + 1)) z1 hc1) cw_L_225 hC hS hAB (cA_ge (Nat.le_refl B)) rfl hl.1 rfl (by decide) (by decide) (Nat.le_of_ble_eq_true rfl) ⟨by show _ + _ ≤ 600006; omega, by show _ + _ ≤ 7302096; omega⟩ dL_law_1258 (fun H locs hC hz hu hS => ?_)
  have hM := Blk.off hM hu (fun q q1 q2 q3 => by rcases q3 with h | h <;> omega)
  refine lv_istore (lv' := [(6, .int z1.1), (5, .int (nI (7 * j))), (0, .ref b), (1, .ref (B + 0)), (2, .ref (B + 202 + 0)), (3, .ref (B + 212)), (4, .ref (B + 213))]) hx hb dL_law_1261 hl (by decide) rfl (fun ls hl => ?_)
  refine lv_aload_n hx hb dL_law_1263 rfl (lv_at hl 4 rfl) ?_
  refine lv_aload_n hx hb dL_law_1264 rfl (lv_at hl 2 rfl) ?_
  refine lv_iload hx hb dL_law_1265 (lv_at hl 1 rfl) ?_
  refine lv_iconst (v := 1) hx hb dL_law_1267 (by decide) ?_
  refine lv_iadd hx hb dL_law_1268 ?_
  refine sc_ld (k := 1) hx hb hX hbl hbB hS hj hL3 (by decide) rfl dL_law_1269 ?_
  obtain ⟨y1, hc2, hf⟩ := br_some hf
  refine mg_cV (As := [.int (xs (7 * j + 1))]) (rest := []) hx hb hml hown hw hE (mX12_isWaiting l E B (B + 202) (by omega) M (xs (7 * j + 1)) y1 hc2) cv_L_227 (w_recv (k := 0) (ci := 12) hE hM (by decide) rfl rfl) hM hS hAB (fun q h => Nat.le_trans (Nat.le_add_right B 202) h.1) rfl hl.1 rfl (by decide) (by decide) (Nat.le_of_ble_eq_true rfl) ⟨by show _ + _ ≤ 600006; omega, by show _ + _ ≤ 7302096; omega⟩ dL_law_1270 (fun H locs hM hz hu hS => ?_)
  have hC := CW.off hC hz hu (fun q hq q3 => by obtain ⟨q1, q2⟩ := q3; rcases hq with h | h <;> omega)
  refine lv_istore (lv' := [(7, .int y1.1), (6, .int z1.1), (5, .int (nI (7 * j))), (0, .ref b), (1, .ref (B + 0)), (2, .ref (B + 202 + 0)), (3, .ref (B + 212)), (4, .ref (B + 213))]) hx hb dL_law_1273 hl (by decide) rfl (fun ls hl => ?_)
  refine lv_aload_n hx hb dL_law_1275 rfl (lv_at hl 5 rfl) ?_
  refine mg_cV (As := []) (rest := []) hx hb hml hown hw hE (mX12_thrown l E B (B + 202) (by omega) y1.2 (y1.2 0 4) rfl) cv_L_172 (w_recv (k := 0) (ci := 12) hE hM (by decide) rfl rfl) hM hS hAB (fun _ h => h.elim) rfl hl.1 rfl (by decide) (by decide) (Nat.le_of_ble_eq_true rfl) ⟨by show _ + _ ≤ 600006; omega, by show _ + _ ≤ 7302096; omega⟩ dL_law_1276 (fun H locs hM hz hu hS => ?_)
  have hC := CW.off hC hz hu (fun q hq q3 => q3)
  refine lv_iload hx hb dL_law_1279 (lv_at hl 1 rfl) ?_
  obtain ⟨hz1, hf⟩ := gd_some hf
  obtain ⟨e1, hf⟩ := gd_some hf
  have e1 : y1.2 0 4 = z1.1 := of_decide_eq_true e1
  obtain ⟨e2, hf⟩ := gd_some hf
  have e2 : z1.1 = 0 → z1.2.o = Int32.toInt64 y1.1 := of_decide_eq_true e2
  have hre := Option.some.inj hf
  subst hre
  refine lv_icmp_eq (tgt := 1286) hx hb dL_law_1281 (by decide) (fun _ => ?_) (fun c9 => absurd e1 c9)
  refine lv_iload hx hb dL_law_1286 (lv_at hl 1 rfl) ?_
  have fin : ∀ k9 n9 : Nat, k9 ≤ cs + 40 → n9 ≤ sl + 1000 → W p l e room_1 s m #[Value.ref b] below meth c H locs k9 n9 Q (F0 m 1310 ls []) := by
    intro k9 n9 g9 g8
    refine lv_goto (tgt := 2939) hx hb dL_law_1310 (by decide) ?_
    refine W.widen (k := cs + 40) (n := sl + 1000) g9 g8 ?_
    exact kk _ _ _ hC hM hS (lv_sub hl [2, 3, 4, 5, 6, 7] rfl)
  refine lv_if_ne (tgt := 1310) hx hb dL_law_1288 (by decide) (fun _ => fin _ _ (by omega) (by omega)) (fun c8 => ?_)
  have e2 := e2 c8
  obtain ⟨hG, hN, hT, hV, hHs, hQ, hR, hP, hSb, hO, hOd⟩ := hC
  refine lv_aload_n hx hb dL_law_1291 rfl (lv_at hl 6 rfl) ?_
  refine lv_iconst (v := 0) hx hb dL_law_1292 (by decide) ?_
  rw [e2] at hO
  refine w_lald hx hb hE hO dL_law_1293 ?_
  refine lv_iload hx hb dL_law_1294 (lv_at hl 0 rfl) ?_
  refine lv_if_eq (tgt := 1303) hx hb dL_law_1296 (by decide) (fun c6 => ?_) (fun c6 => ?_)
  · have h0 : Int32.toInt64 y1.1 = 0 := by rw [c6]; rfl
    rw [h0] at e2 ⊢
    refine lv_lconst (v := 0) hx hb dL_law_1303 rfl ?_
    refine lc_eq hx hb dL_law_1304 ?_
    refine lv_if_eq (tgt := 1310) hx hb dL_law_1305 (by decide) (fun _ => fin _ _ (by omega) (by omega)) (fun c7 => absurd rfl c7)
  · have h1 : Int32.toInt64 y1.1 = 1 := b1 hz1 c6
    rw [h1] at e2 ⊢
    refine lv_lconst (v := 1) hx hb dL_law_1299 rfl ?_
    refine lv_goto (tgt := 1304) hx hb dL_law_1300 (by decide) ?_
    refine lc_eq hx hb dL_law_1304 ?_
    refine lv_if_eq (tgt := 1310) hx hb dL_law_1305 (by decide) (fun _ => fin _ _ (by omega) (by omega)) (fun c7 => absurd rfl c7)
noncomputable def fC_minutesSpoken (z : KS) (M : Mem) (p1 : Int32) : Option (KS × Mem) := (fL_minutesSpoken z p1).bind fun z1 => (fX12_minutesSpoken M p1).bind fun y1 => gd (decide (y1.2 0 4 = z1.1)) (gd (decide (z1.1 = 0 → z1.2.o = Int32.toInt64 y1.1)) (some (z1.2, y1.2)))
set_option maxHeartbeats 4000000 in
set_option maxRecDepth 100000 in
theorem lawC_minutesSpoken {p : Program} {l : Launch} {e : Env} {s : State} {m : MethodId} {below : List Frame} {meth : Method} {c : Code} {E : EP} {b L B : Nat} {xs : Nat → Int32} {Q : State → Prop} (X : LC p l e s m meth c E b L B xs) {j : Nat} (hj : 7 * j + 7 ≤ L) {z : KS} {M : Mem} {r : KS × Mem} (hf : fC_minutesSpoken z M (xs (7 * j + 1)) = some r) {H : Heap} {locs : List Loc} {ls : Array Slot} {cs sl : Nat} (hcs : cs + 40 ≤ 600006) (hsl : sl + 1000 ≤ 7302096) (hC : CW E B z H) (hM : Blk E (B + 202) modSh 10 M H) (hS : va_S (fun q => B ≤ q) s.heap H locs) (hl : lv_has ls 9 (lawL b B j)) (kk : LK p l e s m below meth c E b B Q j (cs + 40) (sl + 1000) r) : W p l e room_1 s m #[Value.ref b] below meth c H locs cs sl Q (F0 m 1313 ls []) := by
  obtain ⟨hx, hb, hml, hown, hw, hE, htr, hX, hbl, hbB, hL3⟩ := X
  have hAB : ∀ q, (fun q => B ≤ q) q → B ≤ q := fun _ h => h
  unfold fC_minutesSpoken at hf
  refine lv_aload_n hx hb dL_law_1313 rfl (lv_at hl 2 rfl) ?_
  refine lv_aload_n hx hb dL_law_1314 rfl (lv_at hl 1 rfl) ?_
  refine lv_iload hx hb dL_law_1315 (lv_at hl 0 rfl) ?_
  refine lv_iconst (v := 1) hx hb dL_law_1317 (by decide) ?_
  refine lv_iadd hx hb dL_law_1318 ?_
  refine sc_ld (k := 1) hx hb hX hbl hbB hS hj hL3 (by decide) rfl dL_law_1319 ?_
  refine lv_aload_n hx hb dL_law_1320 rfl (lv_at hl 4 rfl) ?_
  obtain ⟨z1, hc1, hf⟩ := br_some hf
  refine mg_cW (As := [.ref (B + 0), .int (xs (7 * j + 1)), .ref (B + 212)]) (rest := []) hx hb hml hown hw hE (mL_minutesSpoken l E B htr B (Nat.le_refl B) z (xs (7 * j + 1)) z1 hc1) cw_L_228 hC hS hAB (cA_ge (Nat.le_refl B)) rfl hl.1 rfl (by decide) (by decide) (Nat.le_of_ble_eq_true rfl) ⟨by show _ + _ ≤ 600006; omega, by show _ + _ ≤ 7302096; omega⟩ dL_law_1321 (fun H locs hC hz hu hS => ?_)
  have hM := Blk.off hM hu (fun q q1 q2 q3 => by rcases q3 with h | h <;> omega)
  refine lv_istore (lv' := [(6, .int z1.1), (5, .int (nI (7 * j))), (0, .ref b), (1, .ref (B + 0)), (2, .ref (B + 202 + 0)), (3, .ref (B + 212)), (4, .ref (B + 213))]) hx hb dL_law_1324 hl (by decide) rfl (fun ls hl => ?_)
  refine lv_aload_n hx hb dL_law_1326 rfl (lv_at hl 4 rfl) ?_
  refine lv_aload_n hx hb dL_law_1327 rfl (lv_at hl 2 rfl) ?_
  refine lv_iload hx hb dL_law_1328 (lv_at hl 1 rfl) ?_
  refine lv_iconst (v := 1) hx hb dL_law_1330 (by decide) ?_
  refine lv_iadd hx hb dL_law_1331 ?_
  refine sc_ld (k := 1) hx hb hX hbl hbB hS hj hL3 (by decide) rfl dL_law_1332 ?_
  obtain ⟨y1, hc2, hf⟩ := br_some hf
  refine mg_cV (As := [.int (xs (7 * j + 1))]) (rest := []) hx hb hml hown hw hE (mX12_minutesSpoken l E B (B + 202) (by omega) M (xs (7 * j + 1)) y1 hc2) cv_L_230 (w_recv (k := 0) (ci := 12) hE hM (by decide) rfl rfl) hM hS hAB (fun q h => Nat.le_trans (Nat.le_add_right B 202) h.1) rfl hl.1 rfl (by decide) (by decide) (Nat.le_of_ble_eq_true rfl) ⟨by show _ + _ ≤ 600006; omega, by show _ + _ ≤ 7302096; omega⟩ dL_law_1333 (fun H locs hM hz hu hS => ?_)
  have hC := CW.off hC hz hu (fun q hq q3 => by obtain ⟨q1, q2⟩ := q3; rcases hq with h | h <;> omega)
  refine lv_istore (lv' := [(7, .int y1.1), (6, .int z1.1), (5, .int (nI (7 * j))), (0, .ref b), (1, .ref (B + 0)), (2, .ref (B + 202 + 0)), (3, .ref (B + 212)), (4, .ref (B + 213))]) hx hb dL_law_1336 hl (by decide) rfl (fun ls hl => ?_)
  refine lv_aload_n hx hb dL_law_1338 rfl (lv_at hl 5 rfl) ?_
  refine mg_cV (As := []) (rest := []) hx hb hml hown hw hE (mX12_thrown l E B (B + 202) (by omega) y1.2 (y1.2 0 4) rfl) cv_L_172 (w_recv (k := 0) (ci := 12) hE hM (by decide) rfl rfl) hM hS hAB (fun _ h => h.elim) rfl hl.1 rfl (by decide) (by decide) (Nat.le_of_ble_eq_true rfl) ⟨by show _ + _ ≤ 600006; omega, by show _ + _ ≤ 7302096; omega⟩ dL_law_1339 (fun H locs hM hz hu hS => ?_)
  have hC := CW.off hC hz hu (fun q hq q3 => q3)
  refine lv_iload hx hb dL_law_1342 (lv_at hl 1 rfl) ?_
  obtain ⟨e1, hf⟩ := gd_some hf
  have e1 : y1.2 0 4 = z1.1 := of_decide_eq_true e1
  obtain ⟨e2, hf⟩ := gd_some hf
  have e2 : z1.1 = 0 → z1.2.o = Int32.toInt64 y1.1 := of_decide_eq_true e2
  have hre := Option.some.inj hf
  subst hre
  refine lv_icmp_eq (tgt := 1349) hx hb dL_law_1344 (by decide) (fun _ => ?_) (fun c9 => absurd e1 c9)
  refine lv_iload hx hb dL_law_1349 (lv_at hl 1 rfl) ?_
  have fin : ∀ k9 n9 : Nat, k9 ≤ cs + 40 → n9 ≤ sl + 1000 → W p l e room_1 s m #[Value.ref b] below meth c H locs k9 n9 Q (F0 m 1366 ls []) := by
    intro k9 n9 g9 g8
    refine lv_goto (tgt := 2939) hx hb dL_law_1366 (by decide) ?_
    refine W.widen (k := cs + 40) (n := sl + 1000) g9 g8 ?_
    exact kk _ _ _ hC hM hS (lv_sub hl [2, 3, 4, 5, 6, 7] rfl)
  refine lv_if_ne (tgt := 1366) hx hb dL_law_1351 (by decide) (fun _ => fin _ _ (by omega) (by omega)) (fun c8 => ?_)
  have e2 := e2 c8
  obtain ⟨hG, hN, hT, hV, hHs, hQ, hR, hP, hSb, hO, hOd⟩ := hC
  refine lv_aload_n hx hb dL_law_1354 rfl (lv_at hl 6 rfl) ?_
  refine lv_iconst (v := 0) hx hb dL_law_1355 (by decide) ?_
  rw [e2] at hO
  refine w_lald hx hb hE hO dL_law_1356 ?_
  refine lv_iload hx hb dL_law_1357 (lv_at hl 0 rfl) ?_
  refine lv_i2l hx hb dL_law_1359 rfl ?_
  refine lc_eq hx hb dL_law_1360 ?_
  refine lv_if_eq (tgt := 1366) hx hb dL_law_1361 (by decide) (fun _ => fin _ _ (by omega) (by omega)) (fun c7 => absurd rfl c7)
noncomputable def fC_minutesReceived (z : KS) (M : Mem) (p1 : Int32) : Option (KS × Mem) := (fL_minutesReceived z p1).bind fun z1 => (fX12_minutesReceived M p1).bind fun y1 => gd (decide (y1.2 0 4 = z1.1)) (gd (decide (z1.1 = 0 → z1.2.o = Int32.toInt64 y1.1)) (some (z1.2, y1.2)))
set_option maxHeartbeats 4000000 in
set_option maxRecDepth 100000 in
theorem lawC_minutesReceived {p : Program} {l : Launch} {e : Env} {s : State} {m : MethodId} {below : List Frame} {meth : Method} {c : Code} {E : EP} {b L B : Nat} {xs : Nat → Int32} {Q : State → Prop} (X : LC p l e s m meth c E b L B xs) {j : Nat} (hj : 7 * j + 7 ≤ L) {z : KS} {M : Mem} {r : KS × Mem} (hf : fC_minutesReceived z M (xs (7 * j + 1)) = some r) {H : Heap} {locs : List Loc} {ls : Array Slot} {cs sl : Nat} (hcs : cs + 40 ≤ 600006) (hsl : sl + 1000 ≤ 7302096) (hC : CW E B z H) (hM : Blk E (B + 202) modSh 10 M H) (hS : va_S (fun q => B ≤ q) s.heap H locs) (hl : lv_has ls 9 (lawL b B j)) (kk : LK p l e s m below meth c E b B Q j (cs + 40) (sl + 1000) r) : W p l e room_1 s m #[Value.ref b] below meth c H locs cs sl Q (F0 m 1369 ls []) := by
  obtain ⟨hx, hb, hml, hown, hw, hE, htr, hX, hbl, hbB, hL3⟩ := X
  have hAB : ∀ q, (fun q => B ≤ q) q → B ≤ q := fun _ h => h
  unfold fC_minutesReceived at hf
  refine lv_aload_n hx hb dL_law_1369 rfl (lv_at hl 2 rfl) ?_
  refine lv_aload_n hx hb dL_law_1370 rfl (lv_at hl 1 rfl) ?_
  refine lv_iload hx hb dL_law_1371 (lv_at hl 0 rfl) ?_
  refine lv_iconst (v := 1) hx hb dL_law_1373 (by decide) ?_
  refine lv_iadd hx hb dL_law_1374 ?_
  refine sc_ld (k := 1) hx hb hX hbl hbB hS hj hL3 (by decide) rfl dL_law_1375 ?_
  refine lv_aload_n hx hb dL_law_1376 rfl (lv_at hl 4 rfl) ?_
  obtain ⟨z1, hc1, hf⟩ := br_some hf
  refine mg_cW (As := [.ref (B + 0), .int (xs (7 * j + 1)), .ref (B + 212)]) (rest := []) hx hb hml hown hw hE (mL_minutesReceived l E B htr B (Nat.le_refl B) z (xs (7 * j + 1)) z1 hc1) cw_L_231 hC hS hAB (cA_ge (Nat.le_refl B)) rfl hl.1 rfl (by decide) (by decide) (Nat.le_of_ble_eq_true rfl) ⟨by show _ + _ ≤ 600006; omega, by show _ + _ ≤ 7302096; omega⟩ dL_law_1377 (fun H locs hC hz hu hS => ?_)
  have hM := Blk.off hM hu (fun q q1 q2 q3 => by rcases q3 with h | h <;> omega)
  refine lv_istore (lv' := [(6, .int z1.1), (5, .int (nI (7 * j))), (0, .ref b), (1, .ref (B + 0)), (2, .ref (B + 202 + 0)), (3, .ref (B + 212)), (4, .ref (B + 213))]) hx hb dL_law_1380 hl (by decide) rfl (fun ls hl => ?_)
  refine lv_aload_n hx hb dL_law_1382 rfl (lv_at hl 4 rfl) ?_
  refine lv_aload_n hx hb dL_law_1383 rfl (lv_at hl 2 rfl) ?_
  refine lv_iload hx hb dL_law_1384 (lv_at hl 1 rfl) ?_
  refine lv_iconst (v := 1) hx hb dL_law_1386 (by decide) ?_
  refine lv_iadd hx hb dL_law_1387 ?_
  refine sc_ld (k := 1) hx hb hX hbl hbB hS hj hL3 (by decide) rfl dL_law_1388 ?_
  obtain ⟨y1, hc2, hf⟩ := br_some hf
  refine mg_cV (As := [.int (xs (7 * j + 1))]) (rest := []) hx hb hml hown hw hE (mX12_minutesReceived l E B (B + 202) (by omega) M (xs (7 * j + 1)) y1 hc2) cv_L_233 (w_recv (k := 0) (ci := 12) hE hM (by decide) rfl rfl) hM hS hAB (fun q h => Nat.le_trans (Nat.le_add_right B 202) h.1) rfl hl.1 rfl (by decide) (by decide) (Nat.le_of_ble_eq_true rfl) ⟨by show _ + _ ≤ 600006; omega, by show _ + _ ≤ 7302096; omega⟩ dL_law_1389 (fun H locs hM hz hu hS => ?_)
  have hC := CW.off hC hz hu (fun q hq q3 => by obtain ⟨q1, q2⟩ := q3; rcases hq with h | h <;> omega)
  refine lv_istore (lv' := [(7, .int y1.1), (6, .int z1.1), (5, .int (nI (7 * j))), (0, .ref b), (1, .ref (B + 0)), (2, .ref (B + 202 + 0)), (3, .ref (B + 212)), (4, .ref (B + 213))]) hx hb dL_law_1392 hl (by decide) rfl (fun ls hl => ?_)
  refine lv_aload_n hx hb dL_law_1394 rfl (lv_at hl 5 rfl) ?_
  refine mg_cV (As := []) (rest := []) hx hb hml hown hw hE (mX12_thrown l E B (B + 202) (by omega) y1.2 (y1.2 0 4) rfl) cv_L_172 (w_recv (k := 0) (ci := 12) hE hM (by decide) rfl rfl) hM hS hAB (fun _ h => h.elim) rfl hl.1 rfl (by decide) (by decide) (Nat.le_of_ble_eq_true rfl) ⟨by show _ + _ ≤ 600006; omega, by show _ + _ ≤ 7302096; omega⟩ dL_law_1395 (fun H locs hM hz hu hS => ?_)
  have hC := CW.off hC hz hu (fun q hq q3 => q3)
  refine lv_iload hx hb dL_law_1398 (lv_at hl 1 rfl) ?_
  obtain ⟨e1, hf⟩ := gd_some hf
  have e1 : y1.2 0 4 = z1.1 := of_decide_eq_true e1
  obtain ⟨e2, hf⟩ := gd_some hf
  have e2 : z1.1 = 0 → z1.2.o = Int32.toInt64 y1.1 := of_decide_eq_true e2
  have hre := Option.some.inj hf
  subst hre
  refine lv_icmp_eq (tgt := 1405) hx hb dL_law_1400 (by decide) (fun _ => ?_) (fun c9 => absurd e1 c9)
  refine lv_iload hx hb dL_law_1405 (lv_at hl 1 rfl) ?_
  have fin : ∀ k9 n9 : Nat, k9 ≤ cs + 40 → n9 ≤ sl + 1000 → W p l e room_1 s m #[Value.ref b] below meth c H locs k9 n9 Q (F0 m 1422 ls []) := by
    intro k9 n9 g9 g8
    refine lv_goto (tgt := 2939) hx hb dL_law_1422 (by decide) ?_
    refine W.widen (k := cs + 40) (n := sl + 1000) g9 g8 ?_
    exact kk _ _ _ hC hM hS (lv_sub hl [2, 3, 4, 5, 6, 7] rfl)
  refine lv_if_ne (tgt := 1422) hx hb dL_law_1407 (by decide) (fun _ => fin _ _ (by omega) (by omega)) (fun c8 => ?_)
  have e2 := e2 c8
  obtain ⟨hG, hN, hT, hV, hHs, hQ, hR, hP, hSb, hO, hOd⟩ := hC
  refine lv_aload_n hx hb dL_law_1410 rfl (lv_at hl 6 rfl) ?_
  refine lv_iconst (v := 0) hx hb dL_law_1411 (by decide) ?_
  rw [e2] at hO
  refine w_lald hx hb hE hO dL_law_1412 ?_
  refine lv_iload hx hb dL_law_1413 (lv_at hl 0 rfl) ?_
  refine lv_i2l hx hb dL_law_1415 rfl ?_
  refine lc_eq hx hb dL_law_1416 ?_
  refine lv_if_eq (tgt := 1422) hx hb dL_law_1417 (by decide) (fun _ => fin _ _ (by omega) (by omega)) (fun c7 => absurd rfl c7)
noncomputable def fC_stationByMinutes (z : KS) (M : Mem) (p1 : Int32) : Option (KS × Mem) := (fL_stationByMinutes z p1).bind fun z1 => (fX12_stationByMinutes M p1).bind fun y1 => gd (decide (y1.2 0 4 = z1.1)) (gd (decide (z1.1 = 0 → z1.2.o = Int32.toInt64 y1.1)) (some (z1.2, y1.2)))
set_option maxHeartbeats 4000000 in
set_option maxRecDepth 100000 in
theorem lawC_stationByMinutes {p : Program} {l : Launch} {e : Env} {s : State} {m : MethodId} {below : List Frame} {meth : Method} {c : Code} {E : EP} {b L B : Nat} {xs : Nat → Int32} {Q : State → Prop} (X : LC p l e s m meth c E b L B xs) {j : Nat} (hj : 7 * j + 7 ≤ L) {z : KS} {M : Mem} {r : KS × Mem} (hf : fC_stationByMinutes z M (xs (7 * j + 1)) = some r) {H : Heap} {locs : List Loc} {ls : Array Slot} {cs sl : Nat} (hcs : cs + 40 ≤ 600006) (hsl : sl + 1000 ≤ 7302096) (hC : CW E B z H) (hM : Blk E (B + 202) modSh 10 M H) (hS : va_S (fun q => B ≤ q) s.heap H locs) (hl : lv_has ls 9 (lawL b B j)) (kk : LK p l e s m below meth c E b B Q j (cs + 40) (sl + 1000) r) : W p l e room_1 s m #[Value.ref b] below meth c H locs cs sl Q (F0 m 1425 ls []) := by
  obtain ⟨hx, hb, hml, hown, hw, hE, htr, hX, hbl, hbB, hL3⟩ := X
  have hAB : ∀ q, (fun q => B ≤ q) q → B ≤ q := fun _ h => h
  unfold fC_stationByMinutes at hf
  refine lv_aload_n hx hb dL_law_1425 rfl (lv_at hl 2 rfl) ?_
  refine lv_aload_n hx hb dL_law_1426 rfl (lv_at hl 1 rfl) ?_
  refine lv_iload hx hb dL_law_1427 (lv_at hl 0 rfl) ?_
  refine lv_iconst (v := 1) hx hb dL_law_1429 (by decide) ?_
  refine lv_iadd hx hb dL_law_1430 ?_
  refine sc_ld (k := 1) hx hb hX hbl hbB hS hj hL3 (by decide) rfl dL_law_1431 ?_
  refine lv_aload_n hx hb dL_law_1432 rfl (lv_at hl 4 rfl) ?_
  obtain ⟨z1, hc1, hf⟩ := br_some hf
  refine mg_cW (As := [.ref (B + 0), .int (xs (7 * j + 1)), .ref (B + 212)]) (rest := []) hx hb hml hown hw hE (mL_stationByMinutes l E B htr B (Nat.le_refl B) z (xs (7 * j + 1)) z1 hc1) cw_L_234 hC hS hAB (cA_ge (Nat.le_refl B)) rfl hl.1 rfl (by decide) (by decide) (Nat.le_of_ble_eq_true rfl) ⟨by show _ + _ ≤ 600006; omega, by show _ + _ ≤ 7302096; omega⟩ dL_law_1433 (fun H locs hC hz hu hS => ?_)
  have hM := Blk.off hM hu (fun q q1 q2 q3 => by rcases q3 with h | h <;> omega)
  refine lv_istore (lv' := [(6, .int z1.1), (5, .int (nI (7 * j))), (0, .ref b), (1, .ref (B + 0)), (2, .ref (B + 202 + 0)), (3, .ref (B + 212)), (4, .ref (B + 213))]) hx hb dL_law_1436 hl (by decide) rfl (fun ls hl => ?_)
  refine lv_aload_n hx hb dL_law_1438 rfl (lv_at hl 4 rfl) ?_
  refine lv_aload_n hx hb dL_law_1439 rfl (lv_at hl 2 rfl) ?_
  refine lv_iload hx hb dL_law_1440 (lv_at hl 1 rfl) ?_
  refine lv_iconst (v := 1) hx hb dL_law_1442 (by decide) ?_
  refine lv_iadd hx hb dL_law_1443 ?_
  refine sc_ld (k := 1) hx hb hX hbl hbB hS hj hL3 (by decide) rfl dL_law_1444 ?_
  obtain ⟨y1, hc2, hf⟩ := br_some hf
  refine mg_cV (As := [.int (xs (7 * j + 1))]) (rest := []) hx hb hml hown hw hE (mX12_stationByMinutes l E B (B + 202) (by omega) M (xs (7 * j + 1)) y1 hc2) cv_L_236 (w_recv (k := 0) (ci := 12) hE hM (by decide) rfl rfl) hM hS hAB (fun q h => Nat.le_trans (Nat.le_add_right B 202) h.1) rfl hl.1 rfl (by decide) (by decide) (Nat.le_of_ble_eq_true rfl) ⟨by show _ + _ ≤ 600006; omega, by show _ + _ ≤ 7302096; omega⟩ dL_law_1445 (fun H locs hM hz hu hS => ?_)
  have hC := CW.off hC hz hu (fun q hq q3 => by obtain ⟨q1, q2⟩ := q3; rcases hq with h | h <;> omega)
  refine lv_istore (lv' := [(7, .int y1.1), (6, .int z1.1), (5, .int (nI (7 * j))), (0, .ref b), (1, .ref (B + 0)), (2, .ref (B + 202 + 0)), (3, .ref (B + 212)), (4, .ref (B + 213))]) hx hb dL_law_1448 hl (by decide) rfl (fun ls hl => ?_)
  refine lv_aload_n hx hb dL_law_1450 rfl (lv_at hl 5 rfl) ?_
  refine mg_cV (As := []) (rest := []) hx hb hml hown hw hE (mX12_thrown l E B (B + 202) (by omega) y1.2 (y1.2 0 4) rfl) cv_L_172 (w_recv (k := 0) (ci := 12) hE hM (by decide) rfl rfl) hM hS hAB (fun _ h => h.elim) rfl hl.1 rfl (by decide) (by decide) (Nat.le_of_ble_eq_true rfl) ⟨by show _ + _ ≤ 600006; omega, by show _ + _ ≤ 7302096; omega⟩ dL_law_1451 (fun H locs hM hz hu hS => ?_)
  have hC := CW.off hC hz hu (fun q hq q3 => q3)
  refine lv_iload hx hb dL_law_1454 (lv_at hl 1 rfl) ?_
  obtain ⟨e1, hf⟩ := gd_some hf
  have e1 : y1.2 0 4 = z1.1 := of_decide_eq_true e1
  obtain ⟨e2, hf⟩ := gd_some hf
  have e2 : z1.1 = 0 → z1.2.o = Int32.toInt64 y1.1 := of_decide_eq_true e2
  have hre := Option.some.inj hf
  subst hre
  refine lv_icmp_eq (tgt := 1461) hx hb dL_law_1456 (by decide) (fun _ => ?_) (fun c9 => absurd e1 c9)
  refine lv_iload hx hb dL_law_1461 (lv_at hl 1 rfl) ?_
  have fin : ∀ k9 n9 : Nat, k9 ≤ cs + 40 → n9 ≤ sl + 1000 → W p l e room_1 s m #[Value.ref b] below meth c H locs k9 n9 Q (F0 m 1478 ls []) := by
    intro k9 n9 g9 g8
    refine lv_goto (tgt := 2939) hx hb dL_law_1478 (by decide) ?_
    refine W.widen (k := cs + 40) (n := sl + 1000) g9 g8 ?_
    exact kk _ _ _ hC hM hS (lv_sub hl [2, 3, 4, 5, 6, 7] rfl)
  refine lv_if_ne (tgt := 1478) hx hb dL_law_1463 (by decide) (fun _ => fin _ _ (by omega) (by omega)) (fun c8 => ?_)
  have e2 := e2 c8
  obtain ⟨hG, hN, hT, hV, hHs, hQ, hR, hP, hSb, hO, hOd⟩ := hC
  refine lv_aload_n hx hb dL_law_1466 rfl (lv_at hl 6 rfl) ?_
  refine lv_iconst (v := 0) hx hb dL_law_1467 (by decide) ?_
  rw [e2] at hO
  refine w_lald hx hb hE hO dL_law_1468 ?_
  refine lv_iload hx hb dL_law_1469 (lv_at hl 0 rfl) ?_
  refine lv_i2l hx hb dL_law_1471 rfl ?_
  refine lc_eq hx hb dL_law_1472 ?_
  refine lv_if_eq (tgt := 1478) hx hb dL_law_1473 (by decide) (fun _ => fin _ _ (by omega) (by omega)) (fun c7 => absurd rfl c7)
noncomputable def fC_speaker (z : KS) (M : Mem) (p1 : Int32) : Option (KS × Mem) := (fL_speaker z p1).bind fun z1 => (fX12_speaker M p1).bind fun y1 => gd (decide (y1.2 0 4 = z1.1)) (gd (decide (z1.1 = 0 → z1.2.o = Int32.toInt64 y1.1)) (some (z1.2, y1.2)))
set_option maxHeartbeats 4000000 in
set_option maxRecDepth 100000 in
theorem lawC_speaker {p : Program} {l : Launch} {e : Env} {s : State} {m : MethodId} {below : List Frame} {meth : Method} {c : Code} {E : EP} {b L B : Nat} {xs : Nat → Int32} {Q : State → Prop} (X : LC p l e s m meth c E b L B xs) {j : Nat} (hj : 7 * j + 7 ≤ L) {z : KS} {M : Mem} {r : KS × Mem} (hf : fC_speaker z M (xs (7 * j + 1)) = some r) {H : Heap} {locs : List Loc} {ls : Array Slot} {cs sl : Nat} (hcs : cs + 40 ≤ 600006) (hsl : sl + 1000 ≤ 7302096) (hC : CW E B z H) (hM : Blk E (B + 202) modSh 10 M H) (hS : va_S (fun q => B ≤ q) s.heap H locs) (hl : lv_has ls 9 (lawL b B j)) (kk : LK p l e s m below meth c E b B Q j (cs + 40) (sl + 1000) r) : W p l e room_1 s m #[Value.ref b] below meth c H locs cs sl Q (F0 m 1481 ls []) := by
  obtain ⟨hx, hb, hml, hown, hw, hE, htr, hX, hbl, hbB, hL3⟩ := X
  have hAB : ∀ q, (fun q => B ≤ q) q → B ≤ q := fun _ h => h
  unfold fC_speaker at hf
  refine lv_aload_n hx hb dL_law_1481 rfl (lv_at hl 2 rfl) ?_
  refine lv_aload_n hx hb dL_law_1482 rfl (lv_at hl 1 rfl) ?_
  refine lv_iload hx hb dL_law_1483 (lv_at hl 0 rfl) ?_
  refine lv_iconst (v := 1) hx hb dL_law_1485 (by decide) ?_
  refine lv_iadd hx hb dL_law_1486 ?_
  refine sc_ld (k := 1) hx hb hX hbl hbB hS hj hL3 (by decide) rfl dL_law_1487 ?_
  refine lv_aload_n hx hb dL_law_1488 rfl (lv_at hl 4 rfl) ?_
  obtain ⟨z1, hc1, hf⟩ := br_some hf
  refine mg_cW (As := [.ref (B + 0), .int (xs (7 * j + 1)), .ref (B + 212)]) (rest := []) hx hb hml hown hw hE (mL_speaker l E B htr B (Nat.le_refl B) z (xs (7 * j + 1)) z1 hc1) cw_L_237 hC hS hAB (cA_ge (Nat.le_refl B)) rfl hl.1 rfl (by decide) (by decide) (Nat.le_of_ble_eq_true rfl) ⟨by show _ + _ ≤ 600006; omega, by show _ + _ ≤ 7302096; omega⟩ dL_law_1489 (fun H locs hC hz hu hS => ?_)
  have hM := Blk.off hM hu (fun q q1 q2 q3 => by rcases q3 with h | h <;> omega)
  refine lv_istore (lv' := [(6, .int z1.1), (5, .int (nI (7 * j))), (0, .ref b), (1, .ref (B + 0)), (2, .ref (B + 202 + 0)), (3, .ref (B + 212)), (4, .ref (B + 213))]) hx hb dL_law_1492 hl (by decide) rfl (fun ls hl => ?_)
  refine lv_aload_n hx hb dL_law_1494 rfl (lv_at hl 4 rfl) ?_
  refine lv_aload_n hx hb dL_law_1495 rfl (lv_at hl 2 rfl) ?_
  refine lv_iload hx hb dL_law_1496 (lv_at hl 1 rfl) ?_
  refine lv_iconst (v := 1) hx hb dL_law_1498 (by decide) ?_
  refine lv_iadd hx hb dL_law_1499 ?_
  refine sc_ld (k := 1) hx hb hX hbl hbB hS hj hL3 (by decide) rfl dL_law_1500 ?_
  obtain ⟨y1, hc2, hf⟩ := br_some hf
  refine mg_cV (As := [.int (xs (7 * j + 1))]) (rest := []) hx hb hml hown hw hE (mX12_speaker l E B (B + 202) (by omega) M (xs (7 * j + 1)) y1 hc2) cv_L_239 (w_recv (k := 0) (ci := 12) hE hM (by decide) rfl rfl) hM hS hAB (fun q h => Nat.le_trans (Nat.le_add_right B 202) h.1) rfl hl.1 rfl (by decide) (by decide) (Nat.le_of_ble_eq_true rfl) ⟨by show _ + _ ≤ 600006; omega, by show _ + _ ≤ 7302096; omega⟩ dL_law_1501 (fun H locs hM hz hu hS => ?_)
  have hC := CW.off hC hz hu (fun q hq q3 => by obtain ⟨q1, q2⟩ := q3; rcases hq with h | h <;> omega)
  refine lv_istore (lv' := [(7, .int y1.1), (6, .int z1.1), (5, .int (nI (7 * j))), (0, .ref b), (1, .ref (B + 0)), (2, .ref (B + 202 + 0)), (3, .ref (B + 212)), (4, .ref (B + 213))]) hx hb dL_law_1504 hl (by decide) rfl (fun ls hl => ?_)
  refine lv_aload_n hx hb dL_law_1506 rfl (lv_at hl 5 rfl) ?_
  refine mg_cV (As := []) (rest := []) hx hb hml hown hw hE (mX12_thrown l E B (B + 202) (by omega) y1.2 (y1.2 0 4) rfl) cv_L_172 (w_recv (k := 0) (ci := 12) hE hM (by decide) rfl rfl) hM hS hAB (fun _ h => h.elim) rfl hl.1 rfl (by decide) (by decide) (Nat.le_of_ble_eq_true rfl) ⟨by show _ + _ ≤ 600006; omega, by show _ + _ ≤ 7302096; omega⟩ dL_law_1507 (fun H locs hM hz hu hS => ?_)
  have hC := CW.off hC hz hu (fun q hq q3 => q3)
  refine lv_iload hx hb dL_law_1510 (lv_at hl 1 rfl) ?_
  obtain ⟨e1, hf⟩ := gd_some hf
  have e1 : y1.2 0 4 = z1.1 := of_decide_eq_true e1
  obtain ⟨e2, hf⟩ := gd_some hf
  have e2 : z1.1 = 0 → z1.2.o = Int32.toInt64 y1.1 := of_decide_eq_true e2
  have hre := Option.some.inj hf
  subst hre
  refine lv_icmp_eq (tgt := 1517) hx hb dL_law_1512 (by decide) (fun _ => ?_) (fun c9 => absurd e1 c9)
  refine lv_iload hx hb dL_law_1517 (lv_at hl 1 rfl) ?_
  have fin : ∀ k9 n9 : Nat, k9 ≤ cs + 40 → n9 ≤ sl + 1000 → W p l e room_1 s m #[Value.ref b] below meth c H locs k9 n9 Q (F0 m 1534 ls []) := by
    intro k9 n9 g9 g8
    refine lv_goto (tgt := 2939) hx hb dL_law_1534 (by decide) ?_
    refine W.widen (k := cs + 40) (n := sl + 1000) g9 g8 ?_
    exact kk _ _ _ hC hM hS (lv_sub hl [2, 3, 4, 5, 6, 7] rfl)
  refine lv_if_ne (tgt := 1534) hx hb dL_law_1519 (by decide) (fun _ => fin _ _ (by omega) (by omega)) (fun c8 => ?_)
  have e2 := e2 c8
  obtain ⟨hG, hN, hT, hV, hHs, hQ, hR, hP, hSb, hO, hOd⟩ := hC
  refine lv_aload_n hx hb dL_law_1522 rfl (lv_at hl 6 rfl) ?_
  refine lv_iconst (v := 0) hx hb dL_law_1523 (by decide) ?_
  rw [e2] at hO
  refine w_lald hx hb hE hO dL_law_1524 ?_
  refine lv_iload hx hb dL_law_1525 (lv_at hl 0 rfl) ?_
  refine lv_i2l hx hb dL_law_1527 rfl ?_
  refine lc_eq hx hb dL_law_1528 ?_
  refine lv_if_eq (tgt := 1534) hx hb dL_law_1529 (by decide) (fun _ => fin _ _ (by omega) (by omega)) (fun c7 => absurd rfl c7)
noncomputable def fC_lineLength (z : KS) (M : Mem) (p1 : Int32) : Option (KS × Mem) := (fL_lineLength z p1).bind fun z1 => (fX12_lineLength M p1).bind fun y1 => gd (decide (y1.2 0 4 = z1.1)) (gd (decide (z1.1 = 0 → z1.2.o = Int32.toInt64 y1.1)) (some (z1.2, y1.2)))
set_option maxHeartbeats 4000000 in
set_option maxRecDepth 100000 in
theorem lawC_lineLength {p : Program} {l : Launch} {e : Env} {s : State} {m : MethodId} {below : List Frame} {meth : Method} {c : Code} {E : EP} {b L B : Nat} {xs : Nat → Int32} {Q : State → Prop} (X : LC p l e s m meth c E b L B xs) {j : Nat} (hj : 7 * j + 7 ≤ L) {z : KS} {M : Mem} {r : KS × Mem} (hf : fC_lineLength z M (xs (7 * j + 1)) = some r) {H : Heap} {locs : List Loc} {ls : Array Slot} {cs sl : Nat} (hcs : cs + 40 ≤ 600006) (hsl : sl + 1000 ≤ 7302096) (hC : CW E B z H) (hM : Blk E (B + 202) modSh 10 M H) (hS : va_S (fun q => B ≤ q) s.heap H locs) (hl : lv_has ls 9 (lawL b B j)) (kk : LK p l e s m below meth c E b B Q j (cs + 40) (sl + 1000) r) : W p l e room_1 s m #[Value.ref b] below meth c H locs cs sl Q (F0 m 1537 ls []) := by
  obtain ⟨hx, hb, hml, hown, hw, hE, htr, hX, hbl, hbB, hL3⟩ := X
  have hAB : ∀ q, (fun q => B ≤ q) q → B ≤ q := fun _ h => h
  unfold fC_lineLength at hf
  refine lv_aload_n hx hb dL_law_1537 rfl (lv_at hl 2 rfl) ?_
  refine lv_aload_n hx hb dL_law_1538 rfl (lv_at hl 1 rfl) ?_
  refine lv_iload hx hb dL_law_1539 (lv_at hl 0 rfl) ?_
  refine lv_iconst (v := 1) hx hb dL_law_1541 (by decide) ?_
  refine lv_iadd hx hb dL_law_1542 ?_
  refine sc_ld (k := 1) hx hb hX hbl hbB hS hj hL3 (by decide) rfl dL_law_1543 ?_
  refine lv_aload_n hx hb dL_law_1544 rfl (lv_at hl 4 rfl) ?_
  obtain ⟨z1, hc1, hf⟩ := br_some hf
  refine mg_cW (As := [.ref (B + 0), .int (xs (7 * j + 1)), .ref (B + 212)]) (rest := []) hx hb hml hown hw hE (mL_lineLength l E B htr B (Nat.le_refl B) z (xs (7 * j + 1)) z1 hc1) cw_L_240 hC hS hAB (cA_ge (Nat.le_refl B)) rfl hl.1 rfl (by decide) (by decide) (Nat.le_of_ble_eq_true rfl) ⟨by show _ + _ ≤ 600006; omega, by show _ + _ ≤ 7302096; omega⟩ dL_law_1545 (fun H locs hC hz hu hS => ?_)
  have hM := Blk.off hM hu (fun q q1 q2 q3 => by rcases q3 with h | h <;> omega)
  refine lv_istore (lv' := [(6, .int z1.1), (5, .int (nI (7 * j))), (0, .ref b), (1, .ref (B + 0)), (2, .ref (B + 202 + 0)), (3, .ref (B + 212)), (4, .ref (B + 213))]) hx hb dL_law_1548 hl (by decide) rfl (fun ls hl => ?_)
  refine lv_aload_n hx hb dL_law_1550 rfl (lv_at hl 4 rfl) ?_
  refine lv_aload_n hx hb dL_law_1551 rfl (lv_at hl 2 rfl) ?_
  refine lv_iload hx hb dL_law_1552 (lv_at hl 1 rfl) ?_
  refine lv_iconst (v := 1) hx hb dL_law_1554 (by decide) ?_
  refine lv_iadd hx hb dL_law_1555 ?_
  refine sc_ld (k := 1) hx hb hX hbl hbB hS hj hL3 (by decide) rfl dL_law_1556 ?_
  obtain ⟨y1, hc2, hf⟩ := br_some hf
  refine mg_cV (As := [.int (xs (7 * j + 1))]) (rest := []) hx hb hml hown hw hE (mX12_lineLength l E B (B + 202) (by omega) M (xs (7 * j + 1)) y1 hc2) cv_L_242 (w_recv (k := 0) (ci := 12) hE hM (by decide) rfl rfl) hM hS hAB (fun q h => Nat.le_trans (Nat.le_add_right B 202) h.1) rfl hl.1 rfl (by decide) (by decide) (Nat.le_of_ble_eq_true rfl) ⟨by show _ + _ ≤ 600006; omega, by show _ + _ ≤ 7302096; omega⟩ dL_law_1557 (fun H locs hM hz hu hS => ?_)
  have hC := CW.off hC hz hu (fun q hq q3 => by obtain ⟨q1, q2⟩ := q3; rcases hq with h | h <;> omega)
  refine lv_istore (lv' := [(7, .int y1.1), (6, .int z1.1), (5, .int (nI (7 * j))), (0, .ref b), (1, .ref (B + 0)), (2, .ref (B + 202 + 0)), (3, .ref (B + 212)), (4, .ref (B + 213))]) hx hb dL_law_1560 hl (by decide) rfl (fun ls hl => ?_)
  refine lv_aload_n hx hb dL_law_1562 rfl (lv_at hl 5 rfl) ?_
  refine mg_cV (As := []) (rest := []) hx hb hml hown hw hE (mX12_thrown l E B (B + 202) (by omega) y1.2 (y1.2 0 4) rfl) cv_L_172 (w_recv (k := 0) (ci := 12) hE hM (by decide) rfl rfl) hM hS hAB (fun _ h => h.elim) rfl hl.1 rfl (by decide) (by decide) (Nat.le_of_ble_eq_true rfl) ⟨by show _ + _ ≤ 600006; omega, by show _ + _ ≤ 7302096; omega⟩ dL_law_1563 (fun H locs hM hz hu hS => ?_)
  have hC := CW.off hC hz hu (fun q hq q3 => q3)
  refine lv_iload hx hb dL_law_1566 (lv_at hl 1 rfl) ?_
  obtain ⟨e1, hf⟩ := gd_some hf
  have e1 : y1.2 0 4 = z1.1 := of_decide_eq_true e1
  obtain ⟨e2, hf⟩ := gd_some hf
  have e2 : z1.1 = 0 → z1.2.o = Int32.toInt64 y1.1 := of_decide_eq_true e2
  have hre := Option.some.inj hf
  subst hre
  refine lv_icmp_eq (tgt := 1573) hx hb dL_law_1568 (by decide) (fun _ => ?_) (fun c9 => absurd e1 c9)
  refine lv_iload hx hb dL_law_1573 (lv_at hl 1 rfl) ?_
  have fin : ∀ k9 n9 : Nat, k9 ≤ cs + 40 → n9 ≤ sl + 1000 → W p l e room_1 s m #[Value.ref b] below meth c H locs k9 n9 Q (F0 m 1590 ls []) := by
    intro k9 n9 g9 g8
    refine lv_goto (tgt := 2939) hx hb dL_law_1590 (by decide) ?_
    refine W.widen (k := cs + 40) (n := sl + 1000) g9 g8 ?_
    exact kk _ _ _ hC hM hS (lv_sub hl [2, 3, 4, 5, 6, 7] rfl)
  refine lv_if_ne (tgt := 1590) hx hb dL_law_1575 (by decide) (fun _ => fin _ _ (by omega) (by omega)) (fun c8 => ?_)
  have e2 := e2 c8
  obtain ⟨hG, hN, hT, hV, hHs, hQ, hR, hP, hSb, hO, hOd⟩ := hC
  refine lv_aload_n hx hb dL_law_1578 rfl (lv_at hl 6 rfl) ?_
  refine lv_iconst (v := 0) hx hb dL_law_1579 (by decide) ?_
  rw [e2] at hO
  refine w_lald hx hb hE hO dL_law_1580 ?_
  refine lv_iload hx hb dL_law_1581 (lv_at hl 0 rfl) ?_
  refine lv_i2l hx hb dL_law_1583 rfl ?_
  refine lc_eq hx hb dL_law_1584 ?_
  refine lv_if_eq (tgt := 1590) hx hb dL_law_1585 (by decide) (fun _ => fin _ _ (by omega) (by omega)) (fun c7 => absurd rfl c7)
noncomputable def fC_waiting (z : KS) (M : Mem) (p1 : Int32) (p2 : Int32) : Option (KS × Mem) := (fL_waiting z p1 p2).bind fun z1 => (fX12_waiting M p1 p2).bind fun y1 => gd (decide (y1.2 0 4 = z1.1)) (gd (decide (z1.1 = 0 → z1.2.o = Int32.toInt64 y1.1)) (some (z1.2, y1.2)))
set_option maxHeartbeats 4000000 in
set_option maxRecDepth 100000 in
theorem lawC_waiting {p : Program} {l : Launch} {e : Env} {s : State} {m : MethodId} {below : List Frame} {meth : Method} {c : Code} {E : EP} {b L B : Nat} {xs : Nat → Int32} {Q : State → Prop} (X : LC p l e s m meth c E b L B xs) {j : Nat} (hj : 7 * j + 7 ≤ L) {z : KS} {M : Mem} {r : KS × Mem} (hf : fC_waiting z M (xs (7 * j + 1)) (xs (7 * j + 2)) = some r) {H : Heap} {locs : List Loc} {ls : Array Slot} {cs sl : Nat} (hcs : cs + 40 ≤ 600006) (hsl : sl + 1000 ≤ 7302096) (hC : CW E B z H) (hM : Blk E (B + 202) modSh 10 M H) (hS : va_S (fun q => B ≤ q) s.heap H locs) (hl : lv_has ls 9 (lawL b B j)) (kk : LK p l e s m below meth c E b B Q j (cs + 40) (sl + 1000) r) : W p l e room_1 s m #[Value.ref b] below meth c H locs cs sl Q (F0 m 1593 ls []) := by
  obtain ⟨hx, hb, hml, hown, hw, hE, htr, hX, hbl, hbB, hL3⟩ := X
  have hAB : ∀ q, (fun q => B ≤ q) q → B ≤ q := fun _ h => h
  unfold fC_waiting at hf
  refine lv_aload_n hx hb dL_law_1593 rfl (lv_at hl 2 rfl) ?_
  refine lv_aload_n hx hb dL_law_1594 rfl (lv_at hl 1 rfl) ?_
  refine lv_iload hx hb dL_law_1595 (lv_at hl 0 rfl) ?_
  refine lv_iconst (v := 1) hx hb dL_law_1597 (by decide) ?_
  refine lv_iadd hx hb dL_law_1598 ?_
  refine sc_ld (k := 1) hx hb hX hbl hbB hS hj hL3 (by decide) rfl dL_law_1599 ?_
  refine lv_aload_n hx hb dL_law_1600 rfl (lv_at hl 1 rfl) ?_
  refine lv_iload hx hb dL_law_1601 (lv_at hl 0 rfl) ?_
  refine lv_iconst (v := 2) hx hb dL_law_1603 (by decide) ?_
  refine lv_iadd hx hb dL_law_1604 ?_
  refine sc_ld (k := 2) hx hb hX hbl hbB hS hj hL3 (by decide) rfl dL_law_1605 ?_
  refine lv_aload_n hx hb dL_law_1606 rfl (lv_at hl 4 rfl) ?_
  obtain ⟨z1, hc1, hf⟩ := br_some hf
  refine mg_cW (As := [.ref (B + 0), .int (xs (7 * j + 1)), .int (xs (7 * j + 2)), .ref (B + 212)]) (rest := []) hx hb hml hown hw hE (mL_waiting l E B htr B (Nat.le_refl B) z (xs (7 * j + 1)) (xs (7 * j + 2)) z1 hc1) cw_L_243 hC hS hAB (cA_ge (Nat.le_refl B)) rfl hl.1 rfl (by decide) (by decide) (Nat.le_of_ble_eq_true rfl) ⟨by show _ + _ ≤ 600006; omega, by show _ + _ ≤ 7302096; omega⟩ dL_law_1607 (fun H locs hC hz hu hS => ?_)
  have hM := Blk.off hM hu (fun q q1 q2 q3 => by rcases q3 with h | h <;> omega)
  refine lv_istore (lv' := [(6, .int z1.1), (5, .int (nI (7 * j))), (0, .ref b), (1, .ref (B + 0)), (2, .ref (B + 202 + 0)), (3, .ref (B + 212)), (4, .ref (B + 213))]) hx hb dL_law_1610 hl (by decide) rfl (fun ls hl => ?_)
  refine lv_aload_n hx hb dL_law_1612 rfl (lv_at hl 4 rfl) ?_
  refine lv_aload_n hx hb dL_law_1613 rfl (lv_at hl 2 rfl) ?_
  refine lv_iload hx hb dL_law_1614 (lv_at hl 1 rfl) ?_
  refine lv_iconst (v := 1) hx hb dL_law_1616 (by decide) ?_
  refine lv_iadd hx hb dL_law_1617 ?_
  refine sc_ld (k := 1) hx hb hX hbl hbB hS hj hL3 (by decide) rfl dL_law_1618 ?_
  refine lv_aload_n hx hb dL_law_1619 rfl (lv_at hl 2 rfl) ?_
  refine lv_iload hx hb dL_law_1620 (lv_at hl 1 rfl) ?_
  refine lv_iconst (v := 2) hx hb dL_law_1622 (by decide) ?_
  refine lv_iadd hx hb dL_law_1623 ?_
  refine sc_ld (k := 2) hx hb hX hbl hbB hS hj hL3 (by decide) rfl dL_law_1624 ?_
  obtain ⟨y1, hc2, hf⟩ := br_some hf
  refine mg_cV (As := [.int (xs (7 * j + 1)), .int (xs (7 * j + 2))]) (rest := []) hx hb hml hown hw hE (mX12_waiting l E B (B + 202) (by omega) M (xs (7 * j + 1)) (xs (7 * j + 2)) y1 hc2) cv_L_245 (w_recv (k := 0) (ci := 12) hE hM (by decide) rfl rfl) hM hS hAB (fun q h => Nat.le_trans (Nat.le_add_right B 202) h.1) rfl hl.1 rfl (by decide) (by decide) (Nat.le_of_ble_eq_true rfl) ⟨by show _ + _ ≤ 600006; omega, by show _ + _ ≤ 7302096; omega⟩ dL_law_1625 (fun H locs hM hz hu hS => ?_)
  have hC := CW.off hC hz hu (fun q hq q3 => by obtain ⟨q1, q2⟩ := q3; rcases hq with h | h <;> omega)
  refine lv_istore (lv' := [(7, .int y1.1), (6, .int z1.1), (5, .int (nI (7 * j))), (0, .ref b), (1, .ref (B + 0)), (2, .ref (B + 202 + 0)), (3, .ref (B + 212)), (4, .ref (B + 213))]) hx hb dL_law_1628 hl (by decide) rfl (fun ls hl => ?_)
  refine lv_aload_n hx hb dL_law_1630 rfl (lv_at hl 5 rfl) ?_
  refine mg_cV (As := []) (rest := []) hx hb hml hown hw hE (mX12_thrown l E B (B + 202) (by omega) y1.2 (y1.2 0 4) rfl) cv_L_172 (w_recv (k := 0) (ci := 12) hE hM (by decide) rfl rfl) hM hS hAB (fun _ h => h.elim) rfl hl.1 rfl (by decide) (by decide) (Nat.le_of_ble_eq_true rfl) ⟨by show _ + _ ≤ 600006; omega, by show _ + _ ≤ 7302096; omega⟩ dL_law_1631 (fun H locs hM hz hu hS => ?_)
  have hC := CW.off hC hz hu (fun q hq q3 => q3)
  refine lv_iload hx hb dL_law_1634 (lv_at hl 1 rfl) ?_
  obtain ⟨e1, hf⟩ := gd_some hf
  have e1 : y1.2 0 4 = z1.1 := of_decide_eq_true e1
  obtain ⟨e2, hf⟩ := gd_some hf
  have e2 : z1.1 = 0 → z1.2.o = Int32.toInt64 y1.1 := of_decide_eq_true e2
  have hre := Option.some.inj hf
  subst hre
  refine lv_icmp_eq (tgt := 1641) hx hb dL_law_1636 (by decide) (fun _ => ?_) (fun c9 => absurd e1 c9)
  refine lv_iload hx hb dL_law_1641 (lv_at hl 1 rfl) ?_
  have fin : ∀ k9 n9 : Nat, k9 ≤ cs + 40 → n9 ≤ sl + 1000 → W p l e room_1 s m #[Value.ref b] below meth c H locs k9 n9 Q (F0 m 1658 ls []) := by
    intro k9 n9 g9 g8
    refine lv_goto (tgt := 2939) hx hb dL_law_1658 (by decide) ?_
    refine W.widen (k := cs + 40) (n := sl + 1000) g9 g8 ?_
    exact kk _ _ _ hC hM hS (lv_sub hl [2, 3, 4, 5, 6, 7] rfl)
  refine lv_if_ne (tgt := 1658) hx hb dL_law_1643 (by decide) (fun _ => fin _ _ (by omega) (by omega)) (fun c8 => ?_)
  have e2 := e2 c8
  obtain ⟨hG, hN, hT, hV, hHs, hQ, hR, hP, hSb, hO, hOd⟩ := hC
  refine lv_aload_n hx hb dL_law_1646 rfl (lv_at hl 6 rfl) ?_
  refine lv_iconst (v := 0) hx hb dL_law_1647 (by decide) ?_
  rw [e2] at hO
  refine w_lald hx hb hE hO dL_law_1648 ?_
  refine lv_iload hx hb dL_law_1649 (lv_at hl 0 rfl) ?_
  refine lv_i2l hx hb dL_law_1651 rfl ?_
  refine lc_eq hx hb dL_law_1652 ?_
  refine lv_if_eq (tgt := 1658) hx hb dL_law_1653 (by decide) (fun _ => fin _ _ (by omega) (by omega)) (fun c7 => absurd rfl c7)
noncomputable def fC_minutesUntilTurn (z : KS) (M : Mem) (p1 : Int32) : Option (KS × Mem) := (fL_minutesUntilTurn z p1).bind fun z1 => (fX12_minutesUntilTurn M p1).bind fun y1 => gd (decide (y1.2 0 4 = z1.1)) (gd (decide (z1.1 = 0 → z1.2.o = Int32.toInt64 y1.1)) (some (z1.2, y1.2)))
set_option maxHeartbeats 4000000 in
set_option maxRecDepth 100000 in
theorem lawC_minutesUntilTurn {p : Program} {l : Launch} {e : Env} {s : State} {m : MethodId} {below : List Frame} {meth : Method} {c : Code} {E : EP} {b L B : Nat} {xs : Nat → Int32} {Q : State → Prop} (X : LC p l e s m meth c E b L B xs) {j : Nat} (hj : 7 * j + 7 ≤ L) {z : KS} {M : Mem} {r : KS × Mem} (hf : fC_minutesUntilTurn z M (xs (7 * j + 1)) = some r) {H : Heap} {locs : List Loc} {ls : Array Slot} {cs sl : Nat} (hcs : cs + 40 ≤ 600006) (hsl : sl + 1000 ≤ 7302096) (hC : CW E B z H) (hM : Blk E (B + 202) modSh 10 M H) (hS : va_S (fun q => B ≤ q) s.heap H locs) (hl : lv_has ls 9 (lawL b B j)) (kk : LK p l e s m below meth c E b B Q j (cs + 40) (sl + 1000) r) : W p l e room_1 s m #[Value.ref b] below meth c H locs cs sl Q (F0 m 1661 ls []) := by
  obtain ⟨hx, hb, hml, hown, hw, hE, htr, hX, hbl, hbB, hL3⟩ := X
  have hAB : ∀ q, (fun q => B ≤ q) q → B ≤ q := fun _ h => h
  unfold fC_minutesUntilTurn at hf
  refine lv_aload_n hx hb dL_law_1661 rfl (lv_at hl 2 rfl) ?_
  refine lv_aload_n hx hb dL_law_1662 rfl (lv_at hl 1 rfl) ?_
  refine lv_iload hx hb dL_law_1663 (lv_at hl 0 rfl) ?_
  refine lv_iconst (v := 1) hx hb dL_law_1665 (by decide) ?_
  refine lv_iadd hx hb dL_law_1666 ?_
  refine sc_ld (k := 1) hx hb hX hbl hbB hS hj hL3 (by decide) rfl dL_law_1667 ?_
  refine lv_aload_n hx hb dL_law_1668 rfl (lv_at hl 4 rfl) ?_
  obtain ⟨z1, hc1, hf⟩ := br_some hf
  refine mg_cW (As := [.ref (B + 0), .int (xs (7 * j + 1)), .ref (B + 212)]) (rest := []) hx hb hml hown hw hE (mL_minutesUntilTurn l E B htr B (Nat.le_refl B) z (xs (7 * j + 1)) z1 hc1) cw_L_246 hC hS hAB (cA_ge (Nat.le_refl B)) rfl hl.1 rfl (by decide) (by decide) (Nat.le_of_ble_eq_true rfl) ⟨by show _ + _ ≤ 600006; omega, by show _ + _ ≤ 7302096; omega⟩ dL_law_1669 (fun H locs hC hz hu hS => ?_)
  have hM := Blk.off hM hu (fun q q1 q2 q3 => by rcases q3 with h | h <;> omega)
  refine lv_istore (lv' := [(6, .int z1.1), (5, .int (nI (7 * j))), (0, .ref b), (1, .ref (B + 0)), (2, .ref (B + 202 + 0)), (3, .ref (B + 212)), (4, .ref (B + 213))]) hx hb dL_law_1672 hl (by decide) rfl (fun ls hl => ?_)
  refine lv_aload_n hx hb dL_law_1674 rfl (lv_at hl 4 rfl) ?_
  refine lv_aload_n hx hb dL_law_1675 rfl (lv_at hl 2 rfl) ?_
  refine lv_iload hx hb dL_law_1676 (lv_at hl 1 rfl) ?_
  refine lv_iconst (v := 1) hx hb dL_law_1678 (by decide) ?_
  refine lv_iadd hx hb dL_law_1679 ?_
  refine sc_ld (k := 1) hx hb hX hbl hbB hS hj hL3 (by decide) rfl dL_law_1680 ?_
  obtain ⟨y1, hc2, hf⟩ := br_some hf
  refine mg_cV (As := [.int (xs (7 * j + 1))]) (rest := []) hx hb hml hown hw hE (mX12_minutesUntilTurn l E B (B + 202) (by omega) M (xs (7 * j + 1)) y1 hc2) cv_L_248 (w_recv (k := 0) (ci := 12) hE hM (by decide) rfl rfl) hM hS hAB (fun q h => Nat.le_trans (Nat.le_add_right B 202) h.1) rfl hl.1 rfl (by decide) (by decide) (Nat.le_of_ble_eq_true rfl) ⟨by show _ + _ ≤ 600006; omega, by show _ + _ ≤ 7302096; omega⟩ dL_law_1681 (fun H locs hM hz hu hS => ?_)
  have hC := CW.off hC hz hu (fun q hq q3 => by obtain ⟨q1, q2⟩ := q3; rcases hq with h | h <;> omega)
  refine lv_istore (lv' := [(7, .int y1.1), (6, .int z1.1), (5, .int (nI (7 * j))), (0, .ref b), (1, .ref (B + 0)), (2, .ref (B + 202 + 0)), (3, .ref (B + 212)), (4, .ref (B + 213))]) hx hb dL_law_1684 hl (by decide) rfl (fun ls hl => ?_)
  refine lv_aload_n hx hb dL_law_1686 rfl (lv_at hl 5 rfl) ?_
  refine mg_cV (As := []) (rest := []) hx hb hml hown hw hE (mX12_thrown l E B (B + 202) (by omega) y1.2 (y1.2 0 4) rfl) cv_L_172 (w_recv (k := 0) (ci := 12) hE hM (by decide) rfl rfl) hM hS hAB (fun _ h => h.elim) rfl hl.1 rfl (by decide) (by decide) (Nat.le_of_ble_eq_true rfl) ⟨by show _ + _ ≤ 600006; omega, by show _ + _ ≤ 7302096; omega⟩ dL_law_1687 (fun H locs hM hz hu hS => ?_)
  have hC := CW.off hC hz hu (fun q hq q3 => q3)
  refine lv_iload hx hb dL_law_1690 (lv_at hl 1 rfl) ?_
  obtain ⟨e1, hf⟩ := gd_some hf
  have e1 : y1.2 0 4 = z1.1 := of_decide_eq_true e1
  obtain ⟨e2, hf⟩ := gd_some hf
  have e2 : z1.1 = 0 → z1.2.o = Int32.toInt64 y1.1 := of_decide_eq_true e2
  have hre := Option.some.inj hf
  subst hre
  refine lv_icmp_eq (tgt := 1697) hx hb dL_law_1692 (by decide) (fun _ => ?_) (fun c9 => absurd e1 c9)
  refine lv_iload hx hb dL_law_1697 (lv_at hl 1 rfl) ?_
  have fin : ∀ k9 n9 : Nat, k9 ≤ cs + 40 → n9 ≤ sl + 1000 → W p l e room_1 s m #[Value.ref b] below meth c H locs k9 n9 Q (F0 m 1714 ls []) := by
    intro k9 n9 g9 g8
    refine lv_goto (tgt := 2939) hx hb dL_law_1714 (by decide) ?_
    refine W.widen (k := cs + 40) (n := sl + 1000) g9 g8 ?_
    exact kk _ _ _ hC hM hS (lv_sub hl [2, 3, 4, 5, 6, 7] rfl)
  refine lv_if_ne (tgt := 1714) hx hb dL_law_1699 (by decide) (fun _ => fin _ _ (by omega) (by omega)) (fun c8 => ?_)
  have e2 := e2 c8
  obtain ⟨hG, hN, hT, hV, hHs, hQ, hR, hP, hSb, hO, hOd⟩ := hC
  refine lv_aload_n hx hb dL_law_1702 rfl (lv_at hl 6 rfl) ?_
  refine lv_iconst (v := 0) hx hb dL_law_1703 (by decide) ?_
  rw [e2] at hO
  refine w_lald hx hb hE hO dL_law_1704 ?_
  refine lv_iload hx hb dL_law_1705 (lv_at hl 0 rfl) ?_
  refine lv_i2l hx hb dL_law_1707 rfl ?_
  refine lc_eq hx hb dL_law_1708 ?_
  refine lv_if_eq (tgt := 1714) hx hb dL_law_1709 (by decide) (fun _ => fin _ _ (by omega) (by omega)) (fun c7 => absurd rfl c7)
noncomputable def fC_minutesUntilTurnBySimulation (z : KS) (M : Mem) (p1 : Int32) : Option (KS × Mem) := (fL_minutesUntilTurnBySimulation z p1).bind fun z1 => (fX12_minutesUntilTurnBySimulation M p1).bind fun y1 => gd (decide (y1.2 0 4 = z1.1)) (gd (decide (z1.1 = 0 → z1.2.o = Int32.toInt64 y1.1)) (some (z1.2, y1.2)))
set_option maxHeartbeats 4000000 in
set_option maxRecDepth 100000 in
theorem lawC_minutesUntilTurnBySimulation {p : Program} {l : Launch} {e : Env} {s : State} {m : MethodId} {below : List Frame} {meth : Method} {c : Code} {E : EP} {b L B : Nat} {xs : Nat → Int32} {Q : State → Prop} (X : LC p l e s m meth c E b L B xs) {j : Nat} (hj : 7 * j + 7 ≤ L) {z : KS} {M : Mem} {r : KS × Mem} (hf : fC_minutesUntilTurnBySimulation z M (xs (7 * j + 1)) = some r) {H : Heap} {locs : List Loc} {ls : Array Slot} {cs sl : Nat} (hcs : cs + 40 ≤ 600006) (hsl : sl + 1000 ≤ 7302096) (hC : CW E B z H) (hM : Blk E (B + 202) modSh 10 M H) (hS : va_S (fun q => B ≤ q) s.heap H locs) (hl : lv_has ls 9 (lawL b B j)) (kk : LK p l e s m below meth c E b B Q j (cs + 40) (sl + 1000) r) : W p l e room_1 s m #[Value.ref b] below meth c H locs cs sl Q (F0 m 1717 ls []) := by
  obtain ⟨hx, hb, hml, hown, hw, hE, htr, hX, hbl, hbB, hL3⟩ := X
  have hAB : ∀ q, (fun q => B ≤ q) q → B ≤ q := fun _ h => h
  unfold fC_minutesUntilTurnBySimulation at hf
  refine lv_aload_n hx hb dL_law_1717 rfl (lv_at hl 2 rfl) ?_
  refine lv_aload_n hx hb dL_law_1718 rfl (lv_at hl 1 rfl) ?_
  refine lv_iload hx hb dL_law_1719 (lv_at hl 0 rfl) ?_
  refine lv_iconst (v := 1) hx hb dL_law_1721 (by decide) ?_
  refine lv_iadd hx hb dL_law_1722 ?_
  refine sc_ld (k := 1) hx hb hX hbl hbB hS hj hL3 (by decide) rfl dL_law_1723 ?_
  refine lv_aload_n hx hb dL_law_1724 rfl (lv_at hl 4 rfl) ?_
  obtain ⟨z1, hc1, hf⟩ := br_some hf
  refine mg_cW (As := [.ref (B + 0), .int (xs (7 * j + 1)), .ref (B + 212)]) (rest := []) hx hb hml hown hw hE (mL_minutesUntilTurnBySimulation l E B htr B (Nat.le_refl B) z (xs (7 * j + 1)) z1 hc1) cw_L_249 hC hS hAB (cA_ge (Nat.le_refl B)) rfl hl.1 rfl (by decide) (by decide) (Nat.le_of_ble_eq_true rfl) ⟨by show _ + _ ≤ 600006; omega, by show _ + _ ≤ 7302096; omega⟩ dL_law_1725 (fun H locs hC hz hu hS => ?_)
  have hM := Blk.off hM hu (fun q q1 q2 q3 => by rcases q3 with h | h <;> omega)
  refine lv_istore (lv' := [(6, .int z1.1), (5, .int (nI (7 * j))), (0, .ref b), (1, .ref (B + 0)), (2, .ref (B + 202 + 0)), (3, .ref (B + 212)), (4, .ref (B + 213))]) hx hb dL_law_1728 hl (by decide) rfl (fun ls hl => ?_)
  refine lv_aload_n hx hb dL_law_1730 rfl (lv_at hl 4 rfl) ?_
  refine lv_aload_n hx hb dL_law_1731 rfl (lv_at hl 2 rfl) ?_
  refine lv_iload hx hb dL_law_1732 (lv_at hl 1 rfl) ?_
  refine lv_iconst (v := 1) hx hb dL_law_1734 (by decide) ?_
  refine lv_iadd hx hb dL_law_1735 ?_
  refine sc_ld (k := 1) hx hb hX hbl hbB hS hj hL3 (by decide) rfl dL_law_1736 ?_
  obtain ⟨y1, hc2, hf⟩ := br_some hf
  refine mg_cV (As := [.int (xs (7 * j + 1))]) (rest := []) hx hb hml hown hw hE (mX12_minutesUntilTurnBySimulation l E B (B + 202) (by omega) M (xs (7 * j + 1)) y1 hc2) cv_L_251 (w_recv (k := 0) (ci := 12) hE hM (by decide) rfl rfl) hM hS hAB (fun q h => Nat.le_trans (Nat.le_add_right B 202) h.1) rfl hl.1 rfl (by decide) (by decide) (Nat.le_of_ble_eq_true rfl) ⟨by show _ + _ ≤ 600006; omega, by show _ + _ ≤ 7302096; omega⟩ dL_law_1737 (fun H locs hM hz hu hS => ?_)
  have hC := CW.off hC hz hu (fun q hq q3 => by obtain ⟨q1, q2⟩ := q3; rcases hq with h | h <;> omega)
  refine lv_istore (lv' := [(7, .int y1.1), (6, .int z1.1), (5, .int (nI (7 * j))), (0, .ref b), (1, .ref (B + 0)), (2, .ref (B + 202 + 0)), (3, .ref (B + 212)), (4, .ref (B + 213))]) hx hb dL_law_1740 hl (by decide) rfl (fun ls hl => ?_)
  refine lv_aload_n hx hb dL_law_1742 rfl (lv_at hl 5 rfl) ?_
  refine mg_cV (As := []) (rest := []) hx hb hml hown hw hE (mX12_thrown l E B (B + 202) (by omega) y1.2 (y1.2 0 4) rfl) cv_L_172 (w_recv (k := 0) (ci := 12) hE hM (by decide) rfl rfl) hM hS hAB (fun _ h => h.elim) rfl hl.1 rfl (by decide) (by decide) (Nat.le_of_ble_eq_true rfl) ⟨by show _ + _ ≤ 600006; omega, by show _ + _ ≤ 7302096; omega⟩ dL_law_1743 (fun H locs hM hz hu hS => ?_)
  have hC := CW.off hC hz hu (fun q hq q3 => q3)
  refine lv_iload hx hb dL_law_1746 (lv_at hl 1 rfl) ?_
  obtain ⟨e1, hf⟩ := gd_some hf
  have e1 : y1.2 0 4 = z1.1 := of_decide_eq_true e1
  obtain ⟨e2, hf⟩ := gd_some hf
  have e2 : z1.1 = 0 → z1.2.o = Int32.toInt64 y1.1 := of_decide_eq_true e2
  have hre := Option.some.inj hf
  subst hre
  refine lv_icmp_eq (tgt := 1753) hx hb dL_law_1748 (by decide) (fun _ => ?_) (fun c9 => absurd e1 c9)
  refine lv_iload hx hb dL_law_1753 (lv_at hl 1 rfl) ?_
  have fin : ∀ k9 n9 : Nat, k9 ≤ cs + 40 → n9 ≤ sl + 1000 → W p l e room_1 s m #[Value.ref b] below meth c H locs k9 n9 Q (F0 m 1770 ls []) := by
    intro k9 n9 g9 g8
    refine lv_goto (tgt := 2939) hx hb dL_law_1770 (by decide) ?_
    refine W.widen (k := cs + 40) (n := sl + 1000) g9 g8 ?_
    exact kk _ _ _ hC hM hS (lv_sub hl [2, 3, 4, 5, 6, 7] rfl)
  refine lv_if_ne (tgt := 1770) hx hb dL_law_1755 (by decide) (fun _ => fin _ _ (by omega) (by omega)) (fun c8 => ?_)
  have e2 := e2 c8
  obtain ⟨hG, hN, hT, hV, hHs, hQ, hR, hP, hSb, hO, hOd⟩ := hC
  refine lv_aload_n hx hb dL_law_1758 rfl (lv_at hl 6 rfl) ?_
  refine lv_iconst (v := 0) hx hb dL_law_1759 (by decide) ?_
  rw [e2] at hO
  refine w_lald hx hb hE hO dL_law_1760 ?_
  refine lv_iload hx hb dL_law_1761 (lv_at hl 0 rfl) ?_
  refine lv_i2l hx hb dL_law_1763 rfl ?_
  refine lc_eq hx hb dL_law_1764 ?_
  refine lv_if_eq (tgt := 1770) hx hb dL_law_1765 (by decide) (fun _ => fin _ _ (by omega) (by omega)) (fun c7 => absurd rfl c7)
noncomputable def fC_canHear (z : KS) (M : Mem) (p1 : Int32) (p2 : Int32) : Option (KS × Mem) := (fL_canHear z p1 p2).bind fun z1 => (fX12_canHear M p1 p2).bind fun y1 => gd (isZ y1.1) (gd (decide (y1.2 0 4 = z1.1)) (gd (decide (z1.1 = 0 → z1.2.o = Int32.toInt64 y1.1)) (some (z1.2, y1.2))))
set_option maxHeartbeats 4000000 in
set_option maxRecDepth 100000 in
theorem lawC_canHear {p : Program} {l : Launch} {e : Env} {s : State} {m : MethodId} {below : List Frame} {meth : Method} {c : Code} {E : EP} {b L B : Nat} {xs : Nat → Int32} {Q : State → Prop} (X : LC p l e s m meth c E b L B xs) {j : Nat} (hj : 7 * j + 7 ≤ L) {z : KS} {M : Mem} {r : KS × Mem} (hf : fC_canHear z M (xs (7 * j + 1)) (xs (7 * j + 2)) = some r) {H : Heap} {locs : List Loc} {ls : Array Slot} {cs sl : Nat} (hcs : cs + 40 ≤ 600006) (hsl : sl + 1000 ≤ 7302096) (hC : CW E B z H) (hM : Blk E (B + 202) modSh 10 M H) (hS : va_S (fun q => B ≤ q) s.heap H locs) (hl : lv_has ls 9 (lawL b B j)) (kk : LK p l e s m below meth c E b B Q j (cs + 40) (sl + 1000) r) : W p l e room_1 s m #[Value.ref b] below meth c H locs cs sl Q (F0 m 1773 ls []) := by
  obtain ⟨hx, hb, hml, hown, hw, hE, htr, hX, hbl, hbB, hL3⟩ := X
  have hAB : ∀ q, (fun q => B ≤ q) q → B ≤ q := fun _ h => h
  unfold fC_canHear at hf
  refine lv_aload_n hx hb dL_law_1773 rfl (lv_at hl 2 rfl) ?_
  refine lv_aload_n hx hb dL_law_1774 rfl (lv_at hl 1 rfl) ?_
  refine lv_iload hx hb dL_law_1775 (lv_at hl 0 rfl) ?_
  refine lv_iconst (v := 1) hx hb dL_law_1777 (by decide) ?_
  refine lv_iadd hx hb dL_law_1778 ?_
  refine sc_ld (k := 1) hx hb hX hbl hbB hS hj hL3 (by decide) rfl dL_law_1779 ?_
  refine lv_aload_n hx hb dL_law_1780 rfl (lv_at hl 1 rfl) ?_
  refine lv_iload hx hb dL_law_1781 (lv_at hl 0 rfl) ?_
  refine lv_iconst (v := 2) hx hb dL_law_1783 (by decide) ?_
  refine lv_iadd hx hb dL_law_1784 ?_
  refine sc_ld (k := 2) hx hb hX hbl hbB hS hj hL3 (by decide) rfl dL_law_1785 ?_
  refine lv_aload_n hx hb dL_law_1786 rfl (lv_at hl 4 rfl) ?_
  obtain ⟨z1, hc1, hf⟩ := br_some hf
  refine mg_cW (As := [.ref (B + 0), .int (xs (7 * j + 1)), .int (xs (7 * j + 2)), .ref (B + 212)]) (rest := []) hx hb hml hown hw hE (mL_canHear l E B htr B (Nat.le_refl B) z (xs (7 * j + 1)) (xs (7 * j + 2)) z1 hc1) cw_L_252 hC hS hAB (cA_ge (Nat.le_refl B)) rfl hl.1 rfl (by decide) (by decide) (Nat.le_of_ble_eq_true rfl) ⟨by show _ + _ ≤ 600006; omega, by show _ + _ ≤ 7302096; omega⟩ dL_law_1787 (fun H locs hC hz hu hS => ?_)
  have hM := Blk.off hM hu (fun q q1 q2 q3 => by rcases q3 with h | h <;> omega)
  refine lv_istore (lv' := [(6, .int z1.1), (5, .int (nI (7 * j))), (0, .ref b), (1, .ref (B + 0)), (2, .ref (B + 202 + 0)), (3, .ref (B + 212)), (4, .ref (B + 213))]) hx hb dL_law_1790 hl (by decide) rfl (fun ls hl => ?_)
  refine lv_aload_n hx hb dL_law_1792 rfl (lv_at hl 4 rfl) ?_
  refine lv_aload_n hx hb dL_law_1793 rfl (lv_at hl 2 rfl) ?_
  refine lv_iload hx hb dL_law_1794 (lv_at hl 1 rfl) ?_
  refine lv_iconst (v := 1) hx hb dL_law_1796 (by decide) ?_
  refine lv_iadd hx hb dL_law_1797 ?_
  refine sc_ld (k := 1) hx hb hX hbl hbB hS hj hL3 (by decide) rfl dL_law_1798 ?_
  refine lv_aload_n hx hb dL_law_1799 rfl (lv_at hl 2 rfl) ?_
  refine lv_iload hx hb dL_law_1800 (lv_at hl 1 rfl) ?_
  refine lv_iconst (v := 2) hx hb dL_law_1802 (by decide) ?_
  refine lv_iadd hx hb dL_law_1803 ?_
  refine sc_ld (k := 2) hx hb hX hbl hbB hS hj hL3 (by decide) rfl dL_law_1804 ?_
  obtain ⟨y1, hc2, hf⟩ := br_some hf
  refine mg_cV (As := [.int (xs (7 * j + 1)), .int (xs (7 * j + 2))]) (rest := []) hx hb hml hown hw hE (mX12_canHear l E B (B + 202) (by omega) M (xs (7 * j + 1)) (xs (7 * j + 2)) y1 hc2) cv_L_254 (w_recv (k := 0) (ci := 12) hE hM (by decide) rfl rfl) hM hS hAB (fun q h => Nat.le_trans (Nat.le_add_right B 202) h.1) rfl hl.1 rfl (by decide) (by decide) (Nat.le_of_ble_eq_true rfl) ⟨by show _ + _ ≤ 600006; omega, by show _ + _ ≤ 7302096; omega⟩ dL_law_1805 (fun H locs hM hz hu hS => ?_)
  have hC := CW.off hC hz hu (fun q hq q3 => by obtain ⟨q1, q2⟩ := q3; rcases hq with h | h <;> omega)
  refine lv_istore (lv' := [(7, .int y1.1), (6, .int z1.1), (5, .int (nI (7 * j))), (0, .ref b), (1, .ref (B + 0)), (2, .ref (B + 202 + 0)), (3, .ref (B + 212)), (4, .ref (B + 213))]) hx hb dL_law_1808 hl (by decide) rfl (fun ls hl => ?_)
  refine lv_aload_n hx hb dL_law_1810 rfl (lv_at hl 5 rfl) ?_
  refine mg_cV (As := []) (rest := []) hx hb hml hown hw hE (mX12_thrown l E B (B + 202) (by omega) y1.2 (y1.2 0 4) rfl) cv_L_172 (w_recv (k := 0) (ci := 12) hE hM (by decide) rfl rfl) hM hS hAB (fun _ h => h.elim) rfl hl.1 rfl (by decide) (by decide) (Nat.le_of_ble_eq_true rfl) ⟨by show _ + _ ≤ 600006; omega, by show _ + _ ≤ 7302096; omega⟩ dL_law_1811 (fun H locs hM hz hu hS => ?_)
  have hC := CW.off hC hz hu (fun q hq q3 => q3)
  refine lv_iload hx hb dL_law_1814 (lv_at hl 1 rfl) ?_
  obtain ⟨hz1, hf⟩ := gd_some hf
  obtain ⟨e1, hf⟩ := gd_some hf
  have e1 : y1.2 0 4 = z1.1 := of_decide_eq_true e1
  obtain ⟨e2, hf⟩ := gd_some hf
  have e2 : z1.1 = 0 → z1.2.o = Int32.toInt64 y1.1 := of_decide_eq_true e2
  have hre := Option.some.inj hf
  subst hre
  refine lv_icmp_eq (tgt := 1821) hx hb dL_law_1816 (by decide) (fun _ => ?_) (fun c9 => absurd e1 c9)
  refine lv_iload hx hb dL_law_1821 (lv_at hl 1 rfl) ?_
  have fin : ∀ k9 n9 : Nat, k9 ≤ cs + 40 → n9 ≤ sl + 1000 → W p l e room_1 s m #[Value.ref b] below meth c H locs k9 n9 Q (F0 m 1845 ls []) := by
    intro k9 n9 g9 g8
    refine lv_goto (tgt := 2939) hx hb dL_law_1845 (by decide) ?_
    refine W.widen (k := cs + 40) (n := sl + 1000) g9 g8 ?_
    exact kk _ _ _ hC hM hS (lv_sub hl [2, 3, 4, 5, 6, 7] rfl)
  refine lv_if_ne (tgt := 1845) hx hb dL_law_1823 (by decide) (fun _ => fin _ _ (by omega) (by omega)) (fun c8 => ?_)
  have e2 := e2 c8
  obtain ⟨hG, hN, hT, hV, hHs, hQ, hR, hP, hSb, hO, hOd⟩ := hC
  refine lv_aload_n hx hb dL_law_1826 rfl (lv_at hl 6 rfl) ?_
  refine lv_iconst (v := 0) hx hb dL_law_1827 (by decide) ?_
  rw [e2] at hO
  refine w_lald hx hb hE hO dL_law_1828 ?_
  refine lv_iload hx hb dL_law_1829 (lv_at hl 0 rfl) ?_
  refine lv_if_eq (tgt := 1838) hx hb dL_law_1831 (by decide) (fun c6 => ?_) (fun c6 => ?_)
  · have h0 : Int32.toInt64 y1.1 = 0 := by rw [c6]; rfl
    rw [h0] at e2 ⊢
    refine lv_lconst (v := 0) hx hb dL_law_1838 rfl ?_
    refine lc_eq hx hb dL_law_1839 ?_
    refine lv_if_eq (tgt := 1845) hx hb dL_law_1840 (by decide) (fun _ => fin _ _ (by omega) (by omega)) (fun c7 => absurd rfl c7)
  · have h1 : Int32.toInt64 y1.1 = 1 := b1 hz1 c6
    rw [h1] at e2 ⊢
    refine lv_lconst (v := 1) hx hb dL_law_1834 rfl ?_
    refine lv_goto (tgt := 1839) hx hb dL_law_1835 (by decide) ?_
    refine lc_eq hx hb dL_law_1839 ?_
    refine lv_if_eq (tgt := 1845) hx hb dL_law_1840 (by decide) (fun _ => fin _ _ (by omega) (by omega)) (fun c7 => absurd rfl c7)
noncomputable def fC_isJammed (z : KS) (M : Mem) (p1 : Int32) : Option (KS × Mem) := (fL_isJammed z p1).bind fun z1 => (fX12_isJammed M p1).bind fun y1 => gd (isZ y1.1) (gd (decide (y1.2 0 4 = z1.1)) (gd (decide (z1.1 = 0 → z1.2.o = Int32.toInt64 y1.1)) (some (z1.2, y1.2))))
set_option maxHeartbeats 4000000 in
set_option maxRecDepth 100000 in
theorem lawC_isJammed {p : Program} {l : Launch} {e : Env} {s : State} {m : MethodId} {below : List Frame} {meth : Method} {c : Code} {E : EP} {b L B : Nat} {xs : Nat → Int32} {Q : State → Prop} (X : LC p l e s m meth c E b L B xs) {j : Nat} (hj : 7 * j + 7 ≤ L) {z : KS} {M : Mem} {r : KS × Mem} (hf : fC_isJammed z M (xs (7 * j + 1)) = some r) {H : Heap} {locs : List Loc} {ls : Array Slot} {cs sl : Nat} (hcs : cs + 40 ≤ 600006) (hsl : sl + 1000 ≤ 7302096) (hC : CW E B z H) (hM : Blk E (B + 202) modSh 10 M H) (hS : va_S (fun q => B ≤ q) s.heap H locs) (hl : lv_has ls 9 (lawL b B j)) (kk : LK p l e s m below meth c E b B Q j (cs + 40) (sl + 1000) r) : W p l e room_1 s m #[Value.ref b] below meth c H locs cs sl Q (F0 m 1848 ls []) := by
  obtain ⟨hx, hb, hml, hown, hw, hE, htr, hX, hbl, hbB, hL3⟩ := X
  have hAB : ∀ q, (fun q => B ≤ q) q → B ≤ q := fun _ h => h
  unfold fC_isJammed at hf
  refine lv_aload_n hx hb dL_law_1848 rfl (lv_at hl 2 rfl) ?_
  refine lv_aload_n hx hb dL_law_1849 rfl (lv_at hl 1 rfl) ?_
  refine lv_iload hx hb dL_law_1850 (lv_at hl 0 rfl) ?_
  refine lv_iconst (v := 1) hx hb dL_law_1852 (by decide) ?_
  refine lv_iadd hx hb dL_law_1853 ?_
  refine sc_ld (k := 1) hx hb hX hbl hbB hS hj hL3 (by decide) rfl dL_law_1854 ?_
  refine lv_aload_n hx hb dL_law_1855 rfl (lv_at hl 4 rfl) ?_
  obtain ⟨z1, hc1, hf⟩ := br_some hf
  refine mg_cW (As := [.ref (B + 0), .int (xs (7 * j + 1)), .ref (B + 212)]) (rest := []) hx hb hml hown hw hE (mL_isJammed l E B htr B (Nat.le_refl B) z (xs (7 * j + 1)) z1 hc1) cw_L_255 hC hS hAB (cA_ge (Nat.le_refl B)) rfl hl.1 rfl (by decide) (by decide) (Nat.le_of_ble_eq_true rfl) ⟨by show _ + _ ≤ 600006; omega, by show _ + _ ≤ 7302096; omega⟩ dL_law_1856 (fun H locs hC hz hu hS => ?_)
  have hM := Blk.off hM hu (fun q q1 q2 q3 => by rcases q3 with h | h <;> omega)
  refine lv_istore (lv' := [(6, .int z1.1), (5, .int (nI (7 * j))), (0, .ref b), (1, .ref (B + 0)), (2, .ref (B + 202 + 0)), (3, .ref (B + 212)), (4, .ref (B + 213))]) hx hb dL_law_1859 hl (by decide) rfl (fun ls hl => ?_)
  refine lv_aload_n hx hb dL_law_1861 rfl (lv_at hl 4 rfl) ?_
  refine lv_aload_n hx hb dL_law_1862 rfl (lv_at hl 2 rfl) ?_
  refine lv_iload hx hb dL_law_1863 (lv_at hl 1 rfl) ?_
  refine lv_iconst (v := 1) hx hb dL_law_1865 (by decide) ?_
  refine lv_iadd hx hb dL_law_1866 ?_
  refine sc_ld (k := 1) hx hb hX hbl hbB hS hj hL3 (by decide) rfl dL_law_1867 ?_
  obtain ⟨y1, hc2, hf⟩ := br_some hf
  refine mg_cV (As := [.int (xs (7 * j + 1))]) (rest := []) hx hb hml hown hw hE (mX12_isJammed l E B (B + 202) (by omega) M (xs (7 * j + 1)) y1 hc2) cv_L_257 (w_recv (k := 0) (ci := 12) hE hM (by decide) rfl rfl) hM hS hAB (fun q h => Nat.le_trans (Nat.le_add_right B 202) h.1) rfl hl.1 rfl (by decide) (by decide) (Nat.le_of_ble_eq_true rfl) ⟨by show _ + _ ≤ 600006; omega, by show _ + _ ≤ 7302096; omega⟩ dL_law_1868 (fun H locs hM hz hu hS => ?_)
  have hC := CW.off hC hz hu (fun q hq q3 => by obtain ⟨q1, q2⟩ := q3; rcases hq with h | h <;> omega)
  refine lv_istore (lv' := [(7, .int y1.1), (6, .int z1.1), (5, .int (nI (7 * j))), (0, .ref b), (1, .ref (B + 0)), (2, .ref (B + 202 + 0)), (3, .ref (B + 212)), (4, .ref (B + 213))]) hx hb dL_law_1871 hl (by decide) rfl (fun ls hl => ?_)
  refine lv_aload_n hx hb dL_law_1873 rfl (lv_at hl 5 rfl) ?_
  refine mg_cV (As := []) (rest := []) hx hb hml hown hw hE (mX12_thrown l E B (B + 202) (by omega) y1.2 (y1.2 0 4) rfl) cv_L_172 (w_recv (k := 0) (ci := 12) hE hM (by decide) rfl rfl) hM hS hAB (fun _ h => h.elim) rfl hl.1 rfl (by decide) (by decide) (Nat.le_of_ble_eq_true rfl) ⟨by show _ + _ ≤ 600006; omega, by show _ + _ ≤ 7302096; omega⟩ dL_law_1874 (fun H locs hM hz hu hS => ?_)
  have hC := CW.off hC hz hu (fun q hq q3 => q3)
  refine lv_iload hx hb dL_law_1877 (lv_at hl 1 rfl) ?_
  obtain ⟨hz1, hf⟩ := gd_some hf
  obtain ⟨e1, hf⟩ := gd_some hf
  have e1 : y1.2 0 4 = z1.1 := of_decide_eq_true e1
  obtain ⟨e2, hf⟩ := gd_some hf
  have e2 : z1.1 = 0 → z1.2.o = Int32.toInt64 y1.1 := of_decide_eq_true e2
  have hre := Option.some.inj hf
  subst hre
  refine lv_icmp_eq (tgt := 1884) hx hb dL_law_1879 (by decide) (fun _ => ?_) (fun c9 => absurd e1 c9)
  refine lv_iload hx hb dL_law_1884 (lv_at hl 1 rfl) ?_
  have fin : ∀ k9 n9 : Nat, k9 ≤ cs + 40 → n9 ≤ sl + 1000 → W p l e room_1 s m #[Value.ref b] below meth c H locs k9 n9 Q (F0 m 1908 ls []) := by
    intro k9 n9 g9 g8
    refine lv_goto (tgt := 2939) hx hb dL_law_1908 (by decide) ?_
    refine W.widen (k := cs + 40) (n := sl + 1000) g9 g8 ?_
    exact kk _ _ _ hC hM hS (lv_sub hl [2, 3, 4, 5, 6, 7] rfl)
  refine lv_if_ne (tgt := 1908) hx hb dL_law_1886 (by decide) (fun _ => fin _ _ (by omega) (by omega)) (fun c8 => ?_)
  have e2 := e2 c8
  obtain ⟨hG, hN, hT, hV, hHs, hQ, hR, hP, hSb, hO, hOd⟩ := hC
  refine lv_aload_n hx hb dL_law_1889 rfl (lv_at hl 6 rfl) ?_
  refine lv_iconst (v := 0) hx hb dL_law_1890 (by decide) ?_
  rw [e2] at hO
  refine w_lald hx hb hE hO dL_law_1891 ?_
  refine lv_iload hx hb dL_law_1892 (lv_at hl 0 rfl) ?_
  refine lv_if_eq (tgt := 1901) hx hb dL_law_1894 (by decide) (fun c6 => ?_) (fun c6 => ?_)
  · have h0 : Int32.toInt64 y1.1 = 0 := by rw [c6]; rfl
    rw [h0] at e2 ⊢
    refine lv_lconst (v := 0) hx hb dL_law_1901 rfl ?_
    refine lc_eq hx hb dL_law_1902 ?_
    refine lv_if_eq (tgt := 1908) hx hb dL_law_1903 (by decide) (fun _ => fin _ _ (by omega) (by omega)) (fun c7 => absurd rfl c7)
  · have h1 : Int32.toInt64 y1.1 = 1 := b1 hz1 c6
    rw [h1] at e2 ⊢
    refine lv_lconst (v := 1) hx hb dL_law_1897 rfl ?_
    refine lv_goto (tgt := 1902) hx hb dL_law_1898 (by decide) ?_
    refine lc_eq hx hb dL_law_1902 ?_
    refine lv_if_eq (tgt := 1908) hx hb dL_law_1903 (by decide) (fun _ => fin _ _ (by omega) (by omega)) (fun c7 => absurd rfl c7)
noncomputable def fC_jams (z : KS) (M : Mem) : Option (KS × Mem) := (fX11_jams z.G z.N).bind fun z1 => (fX12_jams M).bind fun y1 => gd (decide (z1 = y1.1)) (some (z, y1.2))
set_option maxHeartbeats 4000000 in
set_option maxRecDepth 100000 in
theorem lawC_jams {p : Program} {l : Launch} {e : Env} {s : State} {m : MethodId} {below : List Frame} {meth : Method} {c : Code} {E : EP} {b L B : Nat} {xs : Nat → Int32} {Q : State → Prop} (X : LC p l e s m meth c E b L B xs) {j : Nat} (hj : 7 * j + 7 ≤ L) {z : KS} {M : Mem} {r : KS × Mem} (hf : fC_jams z M = some r) {H : Heap} {locs : List Loc} {ls : Array Slot} {cs sl : Nat} (hcs : cs + 40 ≤ 600006) (hsl : sl + 1000 ≤ 7302096) (hC : CW E B z H) (hM : Blk E (B + 202) modSh 10 M H) (hS : va_S (fun q => B ≤ q) s.heap H locs) (hl : lv_has ls 9 (lawL b B j)) (kk : LK p l e s m below meth c E b B Q j (cs + 40) (sl + 1000) r) : W p l e room_1 s m #[Value.ref b] below meth c H locs cs sl Q (F0 m 1911 ls []) := by
  obtain ⟨hx, hb, hml, hown, hw, hE, htr, hX, hbl, hbB, hL3⟩ := X
  have hAB : ∀ q, (fun q => B ≤ q) q → B ≤ q := fun _ h => h
  unfold fC_jams at hf
  refine lv_aload_n hx hb dL_law_1911 rfl (lv_at hl 2 rfl) ?_
  obtain ⟨hG, hN, hT, hV, hHs, hQ, hR, hP, hSb, hO, hOd⟩ := hC
  obtain ⟨z1, hc1, hf⟩ := br_some hf
  refine mg_cV (As := []) (rest := []) hx hb hml hown hw hE (mX11_jams l E B B (B + 214) (Nat.le_refl B) (by omega) z.G z.N z1 hc1) cv_L_258 (w_recv (k := 0) (ci := 11) hE hG (by decide) rfl rfl) ⟨hG, hN⟩ hS hAB (fun _ h => h.elim) rfl hl.1 rfl (by decide) (by decide) (Nat.le_of_ble_eq_true rfl) ⟨by show _ + _ ≤ 600006; omega, by show _ + _ ≤ 7302096; omega⟩ dL_law_1912 (fun H locs hP9 hz hu hS => ?_)
  obtain ⟨hG, hN⟩ := hP9
  have hT := Blk.off hT hu (fun _ _ _ h => h)
  have hV := Blk.off hV hu (fun _ _ _ h => h)
  have hHs := Blk.off hHs hu (fun _ _ _ h => h)
  have hQ := Fam.off hQ hu (fun _ _ _ h => h)
  have hR := Blk.off hR hu (fun _ _ _ h => h)
  have hP := Blk.off hP hu (fun _ _ _ h => h)
  have hSb := SBt.off hSb hz hu (fun _ _ h => h)
  have hO := LO.off hO hu (fun h => h)
  have hOd := LD.off hOd hu (fun h => h)
  have hM := Blk.off hM hu (fun q q1 q2 q3 => q3)
  have hC : CW E B z H := ⟨hG, hN, hT, hV, hHs, hQ, hR, hP, hSb, hO, hOd⟩
  refine lv_aload_n hx hb dL_law_1915 rfl (lv_at hl 3 rfl) ?_
  obtain ⟨y1, hc2, hf⟩ := br_some hf
  refine mg_cV (As := []) (rest := [.int z1]) hx hb hml hown hw hE (mX12_jams l E B (B + 202) (by omega) M y1 hc2) cv_L_261 (w_recv (k := 0) (ci := 12) hE hM (by decide) rfl rfl) hM hS hAB (fun q h => Nat.le_trans (Nat.le_add_right B 202) h.1) rfl hl.1 rfl (by decide) (by decide) (Nat.le_of_ble_eq_true rfl) ⟨by show _ + _ ≤ 600006; omega, by show _ + _ ≤ 7302096; omega⟩ dL_law_1916 (fun H locs hM hz hu hS => ?_)
  have hC := CW.off hC hz hu (fun q hq q3 => by obtain ⟨q1, q2⟩ := q3; rcases hq with h | h <;> omega)
  obtain ⟨e1, hf⟩ := gd_some hf
  have e1 : z1 = y1.1 := of_decide_eq_true e1
  have hre := Option.some.inj hf
  subst hre
  refine lv_icmp_eq (tgt := 2939) hx hb dL_law_1919 (by decide) (fun _ => ?_) (fun c9 => absurd e1 c9)
  refine W.widen (k := cs + 40) (n := sl + 1000) (by omega) (by omega) ?_
  exact kk _ _ _ hC hM hS hl
noncomputable def fC_jamsByChannels (z : KS) (M : Mem) : Option (KS × Mem) := (fX11_jamsByChannels z.G z.N).bind fun z1 => (fX12_jamsByChannels M).bind fun y1 => gd (decide (z1 = y1.1)) (some (z, y1.2))
set_option maxHeartbeats 4000000 in
set_option maxRecDepth 100000 in
theorem lawC_jamsByChannels {p : Program} {l : Launch} {e : Env} {s : State} {m : MethodId} {below : List Frame} {meth : Method} {c : Code} {E : EP} {b L B : Nat} {xs : Nat → Int32} {Q : State → Prop} (X : LC p l e s m meth c E b L B xs) {j : Nat} (hj : 7 * j + 7 ≤ L) {z : KS} {M : Mem} {r : KS × Mem} (hf : fC_jamsByChannels z M = some r) {H : Heap} {locs : List Loc} {ls : Array Slot} {cs sl : Nat} (hcs : cs + 40 ≤ 600006) (hsl : sl + 1000 ≤ 7302096) (hC : CW E B z H) (hM : Blk E (B + 202) modSh 10 M H) (hS : va_S (fun q => B ≤ q) s.heap H locs) (hl : lv_has ls 9 (lawL b B j)) (kk : LK p l e s m below meth c E b B Q j (cs + 40) (sl + 1000) r) : W p l e room_1 s m #[Value.ref b] below meth c H locs cs sl Q (F0 m 1924 ls []) := by
  obtain ⟨hx, hb, hml, hown, hw, hE, htr, hX, hbl, hbB, hL3⟩ := X
  have hAB : ∀ q, (fun q => B ≤ q) q → B ≤ q := fun _ h => h
  unfold fC_jamsByChannels at hf
  refine lv_aload_n hx hb dL_law_1924 rfl (lv_at hl 2 rfl) ?_
  obtain ⟨hG, hN, hT, hV, hHs, hQ, hR, hP, hSb, hO, hOd⟩ := hC
  obtain ⟨z1, hc1, hf⟩ := br_some hf
  refine mg_cV (As := []) (rest := []) hx hb hml hown hw hE (mX11_jamsByChannels l E B B (B + 214) (Nat.le_refl B) (by omega) z.G z.N z1 hc1) cv_L_262 (w_recv (k := 0) (ci := 11) hE hG (by decide) rfl rfl) ⟨hG, hN⟩ hS hAB (fun _ h => h.elim) rfl hl.1 rfl (by decide) (by decide) (Nat.le_of_ble_eq_true rfl) ⟨by show _ + _ ≤ 600006; omega, by show _ + _ ≤ 7302096; omega⟩ dL_law_1925 (fun H locs hP9 hz hu hS => ?_)
  obtain ⟨hG, hN⟩ := hP9
  have hT := Blk.off hT hu (fun _ _ _ h => h)
  have hV := Blk.off hV hu (fun _ _ _ h => h)
  have hHs := Blk.off hHs hu (fun _ _ _ h => h)
  have hQ := Fam.off hQ hu (fun _ _ _ h => h)
  have hR := Blk.off hR hu (fun _ _ _ h => h)
  have hP := Blk.off hP hu (fun _ _ _ h => h)
  have hSb := SBt.off hSb hz hu (fun _ _ h => h)
  have hO := LO.off hO hu (fun h => h)
  have hOd := LD.off hOd hu (fun h => h)
  have hM := Blk.off hM hu (fun q q1 q2 q3 => q3)
  have hC : CW E B z H := ⟨hG, hN, hT, hV, hHs, hQ, hR, hP, hSb, hO, hOd⟩
  refine lv_aload_n hx hb dL_law_1928 rfl (lv_at hl 3 rfl) ?_
  obtain ⟨y1, hc2, hf⟩ := br_some hf
  refine mg_cV (As := []) (rest := [.int z1]) hx hb hml hown hw hE (mX12_jamsByChannels l E B (B + 202) (by omega) M y1 hc2) cv_L_265 (w_recv (k := 0) (ci := 12) hE hM (by decide) rfl rfl) hM hS hAB (fun q h => Nat.le_trans (Nat.le_add_right B 202) h.1) rfl hl.1 rfl (by decide) (by decide) (Nat.le_of_ble_eq_true rfl) ⟨by show _ + _ ≤ 600006; omega, by show _ + _ ≤ 7302096; omega⟩ dL_law_1929 (fun H locs hM hz hu hS => ?_)
  have hC := CW.off hC hz hu (fun q hq q3 => by obtain ⟨q1, q2⟩ := q3; rcases hq with h | h <;> omega)
  obtain ⟨e1, hf⟩ := gd_some hf
  have e1 : z1 = y1.1 := of_decide_eq_true e1
  have hre := Option.some.inj hf
  subst hre
  refine lv_icmp_eq (tgt := 2939) hx hb dL_law_1932 (by decide) (fun _ => ?_) (fun c9 => absurd e1 c9)
  refine W.widen (k := cs + 40) (n := sl + 1000) (by omega) (by omega) ?_
  exact kk _ _ _ hC hM hS hl
noncomputable def fC_hops (z : KS) (M : Mem) (p1 : Int32) (p2 : Int32) : Option (KS × Mem) := (fL_hops z p1 p2).bind fun z1 => (fX12_hops M p1 p2).bind fun y1 => gd (decide (y1.2 0 4 = z1.1)) (gd (decide (z1.1 = 0 → z1.2.o = Int32.toInt64 y1.1)) (some (z1.2, y1.2)))
set_option maxHeartbeats 4000000 in
set_option maxRecDepth 100000 in
theorem lawC_hops {p : Program} {l : Launch} {e : Env} {s : State} {m : MethodId} {below : List Frame} {meth : Method} {c : Code} {E : EP} {b L B : Nat} {xs : Nat → Int32} {Q : State → Prop} (X : LC p l e s m meth c E b L B xs) {j : Nat} (hj : 7 * j + 7 ≤ L) {z : KS} {M : Mem} {r : KS × Mem} (hf : fC_hops z M (xs (7 * j + 1)) (xs (7 * j + 2)) = some r) {H : Heap} {locs : List Loc} {ls : Array Slot} {cs sl : Nat} (hcs : cs + 40 ≤ 600006) (hsl : sl + 1000 ≤ 7302096) (hC : CW E B z H) (hM : Blk E (B + 202) modSh 10 M H) (hS : va_S (fun q => B ≤ q) s.heap H locs) (hl : lv_has ls 9 (lawL b B j)) (kk : LK p l e s m below meth c E b B Q j (cs + 40) (sl + 1000) r) : W p l e room_1 s m #[Value.ref b] below meth c H locs cs sl Q (F0 m 1937 ls []) := by
  obtain ⟨hx, hb, hml, hown, hw, hE, htr, hX, hbl, hbB, hL3⟩ := X
  have hAB : ∀ q, (fun q => B ≤ q) q → B ≤ q := fun _ h => h
  unfold fC_hops at hf
  refine lv_aload_n hx hb dL_law_1937 rfl (lv_at hl 2 rfl) ?_
  refine lv_aload_n hx hb dL_law_1938 rfl (lv_at hl 1 rfl) ?_
  refine lv_iload hx hb dL_law_1939 (lv_at hl 0 rfl) ?_
  refine lv_iconst (v := 1) hx hb dL_law_1941 (by decide) ?_
  refine lv_iadd hx hb dL_law_1942 ?_
  refine sc_ld (k := 1) hx hb hX hbl hbB hS hj hL3 (by decide) rfl dL_law_1943 ?_
  refine lv_aload_n hx hb dL_law_1944 rfl (lv_at hl 1 rfl) ?_
  refine lv_iload hx hb dL_law_1945 (lv_at hl 0 rfl) ?_
  refine lv_iconst (v := 2) hx hb dL_law_1947 (by decide) ?_
  refine lv_iadd hx hb dL_law_1948 ?_
  refine sc_ld (k := 2) hx hb hX hbl hbB hS hj hL3 (by decide) rfl dL_law_1949 ?_
  refine lv_aload_n hx hb dL_law_1950 rfl (lv_at hl 4 rfl) ?_
  obtain ⟨z1, hc1, hf⟩ := br_some hf
  refine mg_cW (As := [.ref (B + 0), .int (xs (7 * j + 1)), .int (xs (7 * j + 2)), .ref (B + 212)]) (rest := []) hx hb hml hown hw hE (mL_hops l E B htr B (Nat.le_refl B) z (xs (7 * j + 1)) (xs (7 * j + 2)) z1 hc1) cw_L_266 hC hS hAB (cA_ge (Nat.le_refl B)) rfl hl.1 rfl (by decide) (by decide) (Nat.le_of_ble_eq_true rfl) ⟨by show _ + _ ≤ 600006; omega, by show _ + _ ≤ 7302096; omega⟩ dL_law_1951 (fun H locs hC hz hu hS => ?_)
  have hM := Blk.off hM hu (fun q q1 q2 q3 => by rcases q3 with h | h <;> omega)
  refine lv_istore (lv' := [(6, .int z1.1), (5, .int (nI (7 * j))), (0, .ref b), (1, .ref (B + 0)), (2, .ref (B + 202 + 0)), (3, .ref (B + 212)), (4, .ref (B + 213))]) hx hb dL_law_1954 hl (by decide) rfl (fun ls hl => ?_)
  refine lv_aload_n hx hb dL_law_1956 rfl (lv_at hl 4 rfl) ?_
  refine lv_aload_n hx hb dL_law_1957 rfl (lv_at hl 2 rfl) ?_
  refine lv_iload hx hb dL_law_1958 (lv_at hl 1 rfl) ?_
  refine lv_iconst (v := 1) hx hb dL_law_1960 (by decide) ?_
  refine lv_iadd hx hb dL_law_1961 ?_
  refine sc_ld (k := 1) hx hb hX hbl hbB hS hj hL3 (by decide) rfl dL_law_1962 ?_
  refine lv_aload_n hx hb dL_law_1963 rfl (lv_at hl 2 rfl) ?_
  refine lv_iload hx hb dL_law_1964 (lv_at hl 1 rfl) ?_
  refine lv_iconst (v := 2) hx hb dL_law_1966 (by decide) ?_
  refine lv_iadd hx hb dL_law_1967 ?_
  refine sc_ld (k := 2) hx hb hX hbl hbB hS hj hL3 (by decide) rfl dL_law_1968 ?_
  obtain ⟨y1, hc2, hf⟩ := br_some hf
  refine mg_cV (As := [.int (xs (7 * j + 1)), .int (xs (7 * j + 2))]) (rest := []) hx hb hml hown hw hE (mX12_hops l E B (B + 202) (by omega) M (xs (7 * j + 1)) (xs (7 * j + 2)) y1 hc2) cv_L_268 (w_recv (k := 0) (ci := 12) hE hM (by decide) rfl rfl) hM hS hAB (fun q h => Nat.le_trans (Nat.le_add_right B 202) h.1) rfl hl.1 rfl (by decide) (by decide) (Nat.le_of_ble_eq_true rfl) ⟨by show _ + _ ≤ 600006; omega, by show _ + _ ≤ 7302096; omega⟩ dL_law_1969 (fun H locs hM hz hu hS => ?_)
  have hC := CW.off hC hz hu (fun q hq q3 => by obtain ⟨q1, q2⟩ := q3; rcases hq with h | h <;> omega)
  refine lv_istore (lv' := [(7, .int y1.1), (6, .int z1.1), (5, .int (nI (7 * j))), (0, .ref b), (1, .ref (B + 0)), (2, .ref (B + 202 + 0)), (3, .ref (B + 212)), (4, .ref (B + 213))]) hx hb dL_law_1972 hl (by decide) rfl (fun ls hl => ?_)
  refine lv_aload_n hx hb dL_law_1974 rfl (lv_at hl 5 rfl) ?_
  refine mg_cV (As := []) (rest := []) hx hb hml hown hw hE (mX12_thrown l E B (B + 202) (by omega) y1.2 (y1.2 0 4) rfl) cv_L_172 (w_recv (k := 0) (ci := 12) hE hM (by decide) rfl rfl) hM hS hAB (fun _ h => h.elim) rfl hl.1 rfl (by decide) (by decide) (Nat.le_of_ble_eq_true rfl) ⟨by show _ + _ ≤ 600006; omega, by show _ + _ ≤ 7302096; omega⟩ dL_law_1975 (fun H locs hM hz hu hS => ?_)
  have hC := CW.off hC hz hu (fun q hq q3 => q3)
  refine lv_iload hx hb dL_law_1978 (lv_at hl 1 rfl) ?_
  obtain ⟨e1, hf⟩ := gd_some hf
  have e1 : y1.2 0 4 = z1.1 := of_decide_eq_true e1
  obtain ⟨e2, hf⟩ := gd_some hf
  have e2 : z1.1 = 0 → z1.2.o = Int32.toInt64 y1.1 := of_decide_eq_true e2
  have hre := Option.some.inj hf
  subst hre
  refine lv_icmp_eq (tgt := 1985) hx hb dL_law_1980 (by decide) (fun _ => ?_) (fun c9 => absurd e1 c9)
  refine lv_iload hx hb dL_law_1985 (lv_at hl 1 rfl) ?_
  have fin : ∀ k9 n9 : Nat, k9 ≤ cs + 40 → n9 ≤ sl + 1000 → W p l e room_1 s m #[Value.ref b] below meth c H locs k9 n9 Q (F0 m 2002 ls []) := by
    intro k9 n9 g9 g8
    refine lv_goto (tgt := 2939) hx hb dL_law_2002 (by decide) ?_
    refine W.widen (k := cs + 40) (n := sl + 1000) g9 g8 ?_
    exact kk _ _ _ hC hM hS (lv_sub hl [2, 3, 4, 5, 6, 7] rfl)
  refine lv_if_ne (tgt := 2002) hx hb dL_law_1987 (by decide) (fun _ => fin _ _ (by omega) (by omega)) (fun c8 => ?_)
  have e2 := e2 c8
  obtain ⟨hG, hN, hT, hV, hHs, hQ, hR, hP, hSb, hO, hOd⟩ := hC
  refine lv_aload_n hx hb dL_law_1990 rfl (lv_at hl 6 rfl) ?_
  refine lv_iconst (v := 0) hx hb dL_law_1991 (by decide) ?_
  rw [e2] at hO
  refine w_lald hx hb hE hO dL_law_1992 ?_
  refine lv_iload hx hb dL_law_1993 (lv_at hl 0 rfl) ?_
  refine lv_i2l hx hb dL_law_1995 rfl ?_
  refine lc_eq hx hb dL_law_1996 ?_
  refine lv_if_eq (tgt := 2002) hx hb dL_law_1997 (by decide) (fun _ => fin _ _ (by omega) (by omega)) (fun c7 => absurd rfl c7)
noncomputable def fC_hopsBySets (z : KS) (M : Mem) (p1 : Int32) (p2 : Int32) : Option (KS × Mem) := (fL_hopsBySets z p1 p2).bind fun z1 => (fX12_hopsBySets M p1 p2).bind fun y1 => gd (decide (y1.2 0 4 = z1.1)) (gd (decide (z1.1 = 0 → z1.2.o = Int32.toInt64 y1.1)) (some (z1.2, y1.2)))
set_option maxHeartbeats 4000000 in
set_option maxRecDepth 100000 in
theorem lawC_hopsBySets {p : Program} {l : Launch} {e : Env} {s : State} {m : MethodId} {below : List Frame} {meth : Method} {c : Code} {E : EP} {b L B : Nat} {xs : Nat → Int32} {Q : State → Prop} (X : LC p l e s m meth c E b L B xs) {j : Nat} (hj : 7 * j + 7 ≤ L) {z : KS} {M : Mem} {r : KS × Mem} (hf : fC_hopsBySets z M (xs (7 * j + 1)) (xs (7 * j + 2)) = some r) {H : Heap} {locs : List Loc} {ls : Array Slot} {cs sl : Nat} (hcs : cs + 40 ≤ 600006) (hsl : sl + 1000 ≤ 7302096) (hC : CW E B z H) (hM : Blk E (B + 202) modSh 10 M H) (hS : va_S (fun q => B ≤ q) s.heap H locs) (hl : lv_has ls 9 (lawL b B j)) (kk : LK p l e s m below meth c E b B Q j (cs + 40) (sl + 1000) r) : W p l e room_1 s m #[Value.ref b] below meth c H locs cs sl Q (F0 m 2005 ls []) := by
  obtain ⟨hx, hb, hml, hown, hw, hE, htr, hX, hbl, hbB, hL3⟩ := X
  have hAB : ∀ q, (fun q => B ≤ q) q → B ≤ q := fun _ h => h
  unfold fC_hopsBySets at hf
  refine lv_aload_n hx hb dL_law_2005 rfl (lv_at hl 2 rfl) ?_
  refine lv_aload_n hx hb dL_law_2006 rfl (lv_at hl 1 rfl) ?_
  refine lv_iload hx hb dL_law_2007 (lv_at hl 0 rfl) ?_
  refine lv_iconst (v := 1) hx hb dL_law_2009 (by decide) ?_
  refine lv_iadd hx hb dL_law_2010 ?_
  refine sc_ld (k := 1) hx hb hX hbl hbB hS hj hL3 (by decide) rfl dL_law_2011 ?_
  refine lv_aload_n hx hb dL_law_2012 rfl (lv_at hl 1 rfl) ?_
  refine lv_iload hx hb dL_law_2013 (lv_at hl 0 rfl) ?_
  refine lv_iconst (v := 2) hx hb dL_law_2015 (by decide) ?_
  refine lv_iadd hx hb dL_law_2016 ?_
  refine sc_ld (k := 2) hx hb hX hbl hbB hS hj hL3 (by decide) rfl dL_law_2017 ?_
  refine lv_aload_n hx hb dL_law_2018 rfl (lv_at hl 4 rfl) ?_
  obtain ⟨z1, hc1, hf⟩ := br_some hf
  refine mg_cW (As := [.ref (B + 0), .int (xs (7 * j + 1)), .int (xs (7 * j + 2)), .ref (B + 212)]) (rest := []) hx hb hml hown hw hE (mL_hopsBySets l E B htr B (Nat.le_refl B) z (xs (7 * j + 1)) (xs (7 * j + 2)) z1 hc1) cw_L_269 hC hS hAB (cA_ge (Nat.le_refl B)) rfl hl.1 rfl (by decide) (by decide) (Nat.le_of_ble_eq_true rfl) ⟨by show _ + _ ≤ 600006; omega, by show _ + _ ≤ 7302096; omega⟩ dL_law_2019 (fun H locs hC hz hu hS => ?_)
  have hM := Blk.off hM hu (fun q q1 q2 q3 => by rcases q3 with h | h <;> omega)
  refine lv_istore (lv' := [(6, .int z1.1), (5, .int (nI (7 * j))), (0, .ref b), (1, .ref (B + 0)), (2, .ref (B + 202 + 0)), (3, .ref (B + 212)), (4, .ref (B + 213))]) hx hb dL_law_2022 hl (by decide) rfl (fun ls hl => ?_)
  refine lv_aload_n hx hb dL_law_2024 rfl (lv_at hl 4 rfl) ?_
  refine lv_aload_n hx hb dL_law_2025 rfl (lv_at hl 2 rfl) ?_
  refine lv_iload hx hb dL_law_2026 (lv_at hl 1 rfl) ?_
  refine lv_iconst (v := 1) hx hb dL_law_2028 (by decide) ?_
  refine lv_iadd hx hb dL_law_2029 ?_
  refine sc_ld (k := 1) hx hb hX hbl hbB hS hj hL3 (by decide) rfl dL_law_2030 ?_
  refine lv_aload_n hx hb dL_law_2031 rfl (lv_at hl 2 rfl) ?_
  refine lv_iload hx hb dL_law_2032 (lv_at hl 1 rfl) ?_
  refine lv_iconst (v := 2) hx hb dL_law_2034 (by decide) ?_
  refine lv_iadd hx hb dL_law_2035 ?_
  refine sc_ld (k := 2) hx hb hX hbl hbB hS hj hL3 (by decide) rfl dL_law_2036 ?_
  obtain ⟨y1, hc2, hf⟩ := br_some hf
  refine mg_cV (As := [.int (xs (7 * j + 1)), .int (xs (7 * j + 2))]) (rest := []) hx hb hml hown hw hE (mX12_hopsBySets l E B (B + 202) (by omega) M (xs (7 * j + 1)) (xs (7 * j + 2)) y1 hc2) cv_L_271 (w_recv (k := 0) (ci := 12) hE hM (by decide) rfl rfl) hM hS hAB (fun q h => Nat.le_trans (Nat.le_add_right B 202) h.1) rfl hl.1 rfl (by decide) (by decide) (Nat.le_of_ble_eq_true rfl) ⟨by show _ + _ ≤ 600006; omega, by show _ + _ ≤ 7302096; omega⟩ dL_law_2037 (fun H locs hM hz hu hS => ?_)
  have hC := CW.off hC hz hu (fun q hq q3 => by obtain ⟨q1, q2⟩ := q3; rcases hq with h | h <;> omega)
  refine lv_istore (lv' := [(7, .int y1.1), (6, .int z1.1), (5, .int (nI (7 * j))), (0, .ref b), (1, .ref (B + 0)), (2, .ref (B + 202 + 0)), (3, .ref (B + 212)), (4, .ref (B + 213))]) hx hb dL_law_2040 hl (by decide) rfl (fun ls hl => ?_)
  refine lv_aload_n hx hb dL_law_2042 rfl (lv_at hl 5 rfl) ?_
  refine mg_cV (As := []) (rest := []) hx hb hml hown hw hE (mX12_thrown l E B (B + 202) (by omega) y1.2 (y1.2 0 4) rfl) cv_L_172 (w_recv (k := 0) (ci := 12) hE hM (by decide) rfl rfl) hM hS hAB (fun _ h => h.elim) rfl hl.1 rfl (by decide) (by decide) (Nat.le_of_ble_eq_true rfl) ⟨by show _ + _ ≤ 600006; omega, by show _ + _ ≤ 7302096; omega⟩ dL_law_2043 (fun H locs hM hz hu hS => ?_)
  have hC := CW.off hC hz hu (fun q hq q3 => q3)
  refine lv_iload hx hb dL_law_2046 (lv_at hl 1 rfl) ?_
  obtain ⟨e1, hf⟩ := gd_some hf
  have e1 : y1.2 0 4 = z1.1 := of_decide_eq_true e1
  obtain ⟨e2, hf⟩ := gd_some hf
  have e2 : z1.1 = 0 → z1.2.o = Int32.toInt64 y1.1 := of_decide_eq_true e2
  have hre := Option.some.inj hf
  subst hre
  refine lv_icmp_eq (tgt := 2053) hx hb dL_law_2048 (by decide) (fun _ => ?_) (fun c9 => absurd e1 c9)
  refine lv_iload hx hb dL_law_2053 (lv_at hl 1 rfl) ?_
  have fin : ∀ k9 n9 : Nat, k9 ≤ cs + 40 → n9 ≤ sl + 1000 → W p l e room_1 s m #[Value.ref b] below meth c H locs k9 n9 Q (F0 m 2070 ls []) := by
    intro k9 n9 g9 g8
    refine lv_goto (tgt := 2939) hx hb dL_law_2070 (by decide) ?_
    refine W.widen (k := cs + 40) (n := sl + 1000) g9 g8 ?_
    exact kk _ _ _ hC hM hS (lv_sub hl [2, 3, 4, 5, 6, 7] rfl)
  refine lv_if_ne (tgt := 2070) hx hb dL_law_2055 (by decide) (fun _ => fin _ _ (by omega) (by omega)) (fun c8 => ?_)
  have e2 := e2 c8
  obtain ⟨hG, hN, hT, hV, hHs, hQ, hR, hP, hSb, hO, hOd⟩ := hC
  refine lv_aload_n hx hb dL_law_2058 rfl (lv_at hl 6 rfl) ?_
  refine lv_iconst (v := 0) hx hb dL_law_2059 (by decide) ?_
  rw [e2] at hO
  refine w_lald hx hb hE hO dL_law_2060 ?_
  refine lv_iload hx hb dL_law_2061 (lv_at hl 0 rfl) ?_
  refine lv_i2l hx hb dL_law_2063 rfl ?_
  refine lc_eq hx hb dL_law_2064 ?_
  refine lv_if_eq (tgt := 2070) hx hb dL_law_2065 (by decide) (fun _ => fin _ _ (by omega) (by omega)) (fun c7 => absurd rfl c7)
noncomputable def fC_reachable (z : KS) (M : Mem) (p1 : Int32) : Option (KS × Mem) := (fL_reachable z p1).bind fun z1 => (fX12_reachable M p1).bind fun y1 => gd (decide (y1.2 0 4 = z1.1)) (gd (decide (z1.1 = 0 → z1.2.o = Int32.toInt64 y1.1)) (some (z1.2, y1.2)))
set_option maxHeartbeats 4000000 in
set_option maxRecDepth 100000 in
theorem lawC_reachable {p : Program} {l : Launch} {e : Env} {s : State} {m : MethodId} {below : List Frame} {meth : Method} {c : Code} {E : EP} {b L B : Nat} {xs : Nat → Int32} {Q : State → Prop} (X : LC p l e s m meth c E b L B xs) {j : Nat} (hj : 7 * j + 7 ≤ L) {z : KS} {M : Mem} {r : KS × Mem} (hf : fC_reachable z M (xs (7 * j + 1)) = some r) {H : Heap} {locs : List Loc} {ls : Array Slot} {cs sl : Nat} (hcs : cs + 40 ≤ 600006) (hsl : sl + 1000 ≤ 7302096) (hC : CW E B z H) (hM : Blk E (B + 202) modSh 10 M H) (hS : va_S (fun q => B ≤ q) s.heap H locs) (hl : lv_has ls 9 (lawL b B j)) (kk : LK p l e s m below meth c E b B Q j (cs + 40) (sl + 1000) r) : W p l e room_1 s m #[Value.ref b] below meth c H locs cs sl Q (F0 m 2073 ls []) := by
  obtain ⟨hx, hb, hml, hown, hw, hE, htr, hX, hbl, hbB, hL3⟩ := X
  have hAB : ∀ q, (fun q => B ≤ q) q → B ≤ q := fun _ h => h
  unfold fC_reachable at hf
  refine lv_aload_n hx hb dL_law_2073 rfl (lv_at hl 2 rfl) ?_
  refine lv_aload_n hx hb dL_law_2074 rfl (lv_at hl 1 rfl) ?_
  refine lv_iload hx hb dL_law_2075 (lv_at hl 0 rfl) ?_
  refine lv_iconst (v := 1) hx hb dL_law_2077 (by decide) ?_
  refine lv_iadd hx hb dL_law_2078 ?_
  refine sc_ld (k := 1) hx hb hX hbl hbB hS hj hL3 (by decide) rfl dL_law_2079 ?_
  refine lv_aload_n hx hb dL_law_2080 rfl (lv_at hl 4 rfl) ?_
  obtain ⟨z1, hc1, hf⟩ := br_some hf
  refine mg_cW (As := [.ref (B + 0), .int (xs (7 * j + 1)), .ref (B + 212)]) (rest := []) hx hb hml hown hw hE (mL_reachable l E B htr B (Nat.le_refl B) z (xs (7 * j + 1)) z1 hc1) cw_L_272 hC hS hAB (cA_ge (Nat.le_refl B)) rfl hl.1 rfl (by decide) (by decide) (Nat.le_of_ble_eq_true rfl) ⟨by show _ + _ ≤ 600006; omega, by show _ + _ ≤ 7302096; omega⟩ dL_law_2081 (fun H locs hC hz hu hS => ?_)
  have hM := Blk.off hM hu (fun q q1 q2 q3 => by rcases q3 with h | h <;> omega)
  refine lv_istore (lv' := [(6, .int z1.1), (5, .int (nI (7 * j))), (0, .ref b), (1, .ref (B + 0)), (2, .ref (B + 202 + 0)), (3, .ref (B + 212)), (4, .ref (B + 213))]) hx hb dL_law_2084 hl (by decide) rfl (fun ls hl => ?_)
  refine lv_aload_n hx hb dL_law_2086 rfl (lv_at hl 4 rfl) ?_
  refine lv_aload_n hx hb dL_law_2087 rfl (lv_at hl 2 rfl) ?_
  refine lv_iload hx hb dL_law_2088 (lv_at hl 1 rfl) ?_
  refine lv_iconst (v := 1) hx hb dL_law_2090 (by decide) ?_
  refine lv_iadd hx hb dL_law_2091 ?_
  refine sc_ld (k := 1) hx hb hX hbl hbB hS hj hL3 (by decide) rfl dL_law_2092 ?_
  obtain ⟨y1, hc2, hf⟩ := br_some hf
  refine mg_cV (As := [.int (xs (7 * j + 1))]) (rest := []) hx hb hml hown hw hE (mX12_reachable l E B (B + 202) (by omega) M (xs (7 * j + 1)) y1 hc2) cv_L_274 (w_recv (k := 0) (ci := 12) hE hM (by decide) rfl rfl) hM hS hAB (fun q h => Nat.le_trans (Nat.le_add_right B 202) h.1) rfl hl.1 rfl (by decide) (by decide) (Nat.le_of_ble_eq_true rfl) ⟨by show _ + _ ≤ 600006; omega, by show _ + _ ≤ 7302096; omega⟩ dL_law_2093 (fun H locs hM hz hu hS => ?_)
  have hC := CW.off hC hz hu (fun q hq q3 => by obtain ⟨q1, q2⟩ := q3; rcases hq with h | h <;> omega)
  refine lv_istore (lv' := [(7, .int y1.1), (6, .int z1.1), (5, .int (nI (7 * j))), (0, .ref b), (1, .ref (B + 0)), (2, .ref (B + 202 + 0)), (3, .ref (B + 212)), (4, .ref (B + 213))]) hx hb dL_law_2096 hl (by decide) rfl (fun ls hl => ?_)
  refine lv_aload_n hx hb dL_law_2098 rfl (lv_at hl 5 rfl) ?_
  refine mg_cV (As := []) (rest := []) hx hb hml hown hw hE (mX12_thrown l E B (B + 202) (by omega) y1.2 (y1.2 0 4) rfl) cv_L_172 (w_recv (k := 0) (ci := 12) hE hM (by decide) rfl rfl) hM hS hAB (fun _ h => h.elim) rfl hl.1 rfl (by decide) (by decide) (Nat.le_of_ble_eq_true rfl) ⟨by show _ + _ ≤ 600006; omega, by show _ + _ ≤ 7302096; omega⟩ dL_law_2099 (fun H locs hM hz hu hS => ?_)
  have hC := CW.off hC hz hu (fun q hq q3 => q3)
  refine lv_iload hx hb dL_law_2102 (lv_at hl 1 rfl) ?_
  obtain ⟨e1, hf⟩ := gd_some hf
  have e1 : y1.2 0 4 = z1.1 := of_decide_eq_true e1
  obtain ⟨e2, hf⟩ := gd_some hf
  have e2 : z1.1 = 0 → z1.2.o = Int32.toInt64 y1.1 := of_decide_eq_true e2
  have hre := Option.some.inj hf
  subst hre
  refine lv_icmp_eq (tgt := 2109) hx hb dL_law_2104 (by decide) (fun _ => ?_) (fun c9 => absurd e1 c9)
  refine lv_iload hx hb dL_law_2109 (lv_at hl 1 rfl) ?_
  have fin : ∀ k9 n9 : Nat, k9 ≤ cs + 40 → n9 ≤ sl + 1000 → W p l e room_1 s m #[Value.ref b] below meth c H locs k9 n9 Q (F0 m 2126 ls []) := by
    intro k9 n9 g9 g8
    refine lv_goto (tgt := 2939) hx hb dL_law_2126 (by decide) ?_
    refine W.widen (k := cs + 40) (n := sl + 1000) g9 g8 ?_
    exact kk _ _ _ hC hM hS (lv_sub hl [2, 3, 4, 5, 6, 7] rfl)
  refine lv_if_ne (tgt := 2126) hx hb dL_law_2111 (by decide) (fun _ => fin _ _ (by omega) (by omega)) (fun c8 => ?_)
  have e2 := e2 c8
  obtain ⟨hG, hN, hT, hV, hHs, hQ, hR, hP, hSb, hO, hOd⟩ := hC
  refine lv_aload_n hx hb dL_law_2114 rfl (lv_at hl 6 rfl) ?_
  refine lv_iconst (v := 0) hx hb dL_law_2115 (by decide) ?_
  rw [e2] at hO
  refine w_lald hx hb hE hO dL_law_2116 ?_
  refine lv_iload hx hb dL_law_2117 (lv_at hl 0 rfl) ?_
  refine lv_i2l hx hb dL_law_2119 rfl ?_
  refine lc_eq hx hb dL_law_2120 ?_
  refine lv_if_eq (tgt := 2126) hx hb dL_law_2121 (by decide) (fun _ => fin _ _ (by omega) (by omega)) (fun c7 => absurd rfl c7)
noncomputable def fC_logLength (z : KS) (M : Mem) : Option (KS × Mem) := (fX11_logLength z.G z.N).bind fun z1 => (fX12_logLength M).bind fun y1 => gd (decide (z1 = y1.1)) (some (z, y1.2))
set_option maxHeartbeats 4000000 in
set_option maxRecDepth 100000 in
theorem lawC_logLength {p : Program} {l : Launch} {e : Env} {s : State} {m : MethodId} {below : List Frame} {meth : Method} {c : Code} {E : EP} {b L B : Nat} {xs : Nat → Int32} {Q : State → Prop} (X : LC p l e s m meth c E b L B xs) {j : Nat} (hj : 7 * j + 7 ≤ L) {z : KS} {M : Mem} {r : KS × Mem} (hf : fC_logLength z M = some r) {H : Heap} {locs : List Loc} {ls : Array Slot} {cs sl : Nat} (hcs : cs + 40 ≤ 600006) (hsl : sl + 1000 ≤ 7302096) (hC : CW E B z H) (hM : Blk E (B + 202) modSh 10 M H) (hS : va_S (fun q => B ≤ q) s.heap H locs) (hl : lv_has ls 9 (lawL b B j)) (kk : LK p l e s m below meth c E b B Q j (cs + 40) (sl + 1000) r) : W p l e room_1 s m #[Value.ref b] below meth c H locs cs sl Q (F0 m 2129 ls []) := by
  obtain ⟨hx, hb, hml, hown, hw, hE, htr, hX, hbl, hbB, hL3⟩ := X
  have hAB : ∀ q, (fun q => B ≤ q) q → B ≤ q := fun _ h => h
  unfold fC_logLength at hf
  refine lv_aload_n hx hb dL_law_2129 rfl (lv_at hl 2 rfl) ?_
  obtain ⟨hG, hN, hT, hV, hHs, hQ, hR, hP, hSb, hO, hOd⟩ := hC
  obtain ⟨z1, hc1, hf⟩ := br_some hf
  refine mg_cV (As := []) (rest := []) hx hb hml hown hw hE (mX11_logLength l E B B (B + 214) (Nat.le_refl B) (by omega) z.G z.N z1 hc1) cv_L_275 (w_recv (k := 0) (ci := 11) hE hG (by decide) rfl rfl) ⟨hG, hN⟩ hS hAB (fun _ h => h.elim) rfl hl.1 rfl (by decide) (by decide) (Nat.le_of_ble_eq_true rfl) ⟨by show _ + _ ≤ 600006; omega, by show _ + _ ≤ 7302096; omega⟩ dL_law_2130 (fun H locs hP9 hz hu hS => ?_)
  obtain ⟨hG, hN⟩ := hP9
  have hT := Blk.off hT hu (fun _ _ _ h => h)
  have hV := Blk.off hV hu (fun _ _ _ h => h)
  have hHs := Blk.off hHs hu (fun _ _ _ h => h)
  have hQ := Fam.off hQ hu (fun _ _ _ h => h)
  have hR := Blk.off hR hu (fun _ _ _ h => h)
  have hP := Blk.off hP hu (fun _ _ _ h => h)
  have hSb := SBt.off hSb hz hu (fun _ _ h => h)
  have hO := LO.off hO hu (fun h => h)
  have hOd := LD.off hOd hu (fun h => h)
  have hM := Blk.off hM hu (fun q q1 q2 q3 => q3)
  have hC : CW E B z H := ⟨hG, hN, hT, hV, hHs, hQ, hR, hP, hSb, hO, hOd⟩
  refine lv_aload_n hx hb dL_law_2133 rfl (lv_at hl 3 rfl) ?_
  obtain ⟨y1, hc2, hf⟩ := br_some hf
  refine mg_cV (As := []) (rest := [.int z1]) hx hb hml hown hw hE (mX12_logLength l E B (B + 202) (by omega) M y1 hc2) cv_L_278 (w_recv (k := 0) (ci := 12) hE hM (by decide) rfl rfl) hM hS hAB (fun q h => Nat.le_trans (Nat.le_add_right B 202) h.1) rfl hl.1 rfl (by decide) (by decide) (Nat.le_of_ble_eq_true rfl) ⟨by show _ + _ ≤ 600006; omega, by show _ + _ ≤ 7302096; omega⟩ dL_law_2134 (fun H locs hM hz hu hS => ?_)
  have hC := CW.off hC hz hu (fun q hq q3 => by obtain ⟨q1, q2⟩ := q3; rcases hq with h | h <;> omega)
  obtain ⟨e1, hf⟩ := gd_some hf
  have e1 : z1 = y1.1 := of_decide_eq_true e1
  have hre := Option.some.inj hf
  subst hre
  refine lv_icmp_eq (tgt := 2939) hx hb dL_law_2137 (by decide) (fun _ => ?_) (fun c9 => absurd e1 c9)
  refine W.widen (k := cs + 40) (n := sl + 1000) (by omega) (by omega) ?_
  exact kk _ _ _ hC hM hS hl
noncomputable def fC_logStation (z : KS) (M : Mem) (p1 : Int32) : Option (KS × Mem) := (fL_logStation z p1).bind fun z1 => (fX12_logStation M p1).bind fun y1 => gd (decide (y1.2 0 4 = z1.1)) (gd (decide (z1.1 = 0 → z1.2.o = Int32.toInt64 y1.1)) (some (z1.2, y1.2)))
set_option maxHeartbeats 4000000 in
set_option maxRecDepth 100000 in
theorem lawC_logStation {p : Program} {l : Launch} {e : Env} {s : State} {m : MethodId} {below : List Frame} {meth : Method} {c : Code} {E : EP} {b L B : Nat} {xs : Nat → Int32} {Q : State → Prop} (X : LC p l e s m meth c E b L B xs) {j : Nat} (hj : 7 * j + 7 ≤ L) {z : KS} {M : Mem} {r : KS × Mem} (hf : fC_logStation z M (xs (7 * j + 1)) = some r) {H : Heap} {locs : List Loc} {ls : Array Slot} {cs sl : Nat} (hcs : cs + 40 ≤ 600006) (hsl : sl + 1000 ≤ 7302096) (hC : CW E B z H) (hM : Blk E (B + 202) modSh 10 M H) (hS : va_S (fun q => B ≤ q) s.heap H locs) (hl : lv_has ls 9 (lawL b B j)) (kk : LK p l e s m below meth c E b B Q j (cs + 40) (sl + 1000) r) : W p l e room_1 s m #[Value.ref b] below meth c H locs cs sl Q (F0 m 2142 ls []) := by
  obtain ⟨hx, hb, hml, hown, hw, hE, htr, hX, hbl, hbB, hL3⟩ := X
  have hAB : ∀ q, (fun q => B ≤ q) q → B ≤ q := fun _ h => h
  unfold fC_logStation at hf
  refine lv_aload_n hx hb dL_law_2142 rfl (lv_at hl 2 rfl) ?_
  refine lv_aload_n hx hb dL_law_2143 rfl (lv_at hl 1 rfl) ?_
  refine lv_iload hx hb dL_law_2144 (lv_at hl 0 rfl) ?_
  refine lv_iconst (v := 1) hx hb dL_law_2146 (by decide) ?_
  refine lv_iadd hx hb dL_law_2147 ?_
  refine sc_ld (k := 1) hx hb hX hbl hbB hS hj hL3 (by decide) rfl dL_law_2148 ?_
  refine lv_aload_n hx hb dL_law_2149 rfl (lv_at hl 4 rfl) ?_
  obtain ⟨z1, hc1, hf⟩ := br_some hf
  refine mg_cW (As := [.ref (B + 0), .int (xs (7 * j + 1)), .ref (B + 212)]) (rest := []) hx hb hml hown hw hE (mL_logStation l E B htr B (Nat.le_refl B) z (xs (7 * j + 1)) z1 hc1) cw_L_279 hC hS hAB (cA_ge (Nat.le_refl B)) rfl hl.1 rfl (by decide) (by decide) (Nat.le_of_ble_eq_true rfl) ⟨by show _ + _ ≤ 600006; omega, by show _ + _ ≤ 7302096; omega⟩ dL_law_2150 (fun H locs hC hz hu hS => ?_)
  have hM := Blk.off hM hu (fun q q1 q2 q3 => by rcases q3 with h | h <;> omega)
  refine lv_istore (lv' := [(6, .int z1.1), (5, .int (nI (7 * j))), (0, .ref b), (1, .ref (B + 0)), (2, .ref (B + 202 + 0)), (3, .ref (B + 212)), (4, .ref (B + 213))]) hx hb dL_law_2153 hl (by decide) rfl (fun ls hl => ?_)
  refine lv_aload_n hx hb dL_law_2155 rfl (lv_at hl 4 rfl) ?_
  refine lv_aload_n hx hb dL_law_2156 rfl (lv_at hl 2 rfl) ?_
  refine lv_iload hx hb dL_law_2157 (lv_at hl 1 rfl) ?_
  refine lv_iconst (v := 1) hx hb dL_law_2159 (by decide) ?_
  refine lv_iadd hx hb dL_law_2160 ?_
  refine sc_ld (k := 1) hx hb hX hbl hbB hS hj hL3 (by decide) rfl dL_law_2161 ?_
  obtain ⟨y1, hc2, hf⟩ := br_some hf
  refine mg_cV (As := [.int (xs (7 * j + 1))]) (rest := []) hx hb hml hown hw hE (mX12_logStation l E B (B + 202) (by omega) M (xs (7 * j + 1)) y1 hc2) cv_L_281 (w_recv (k := 0) (ci := 12) hE hM (by decide) rfl rfl) hM hS hAB (fun q h => Nat.le_trans (Nat.le_add_right B 202) h.1) rfl hl.1 rfl (by decide) (by decide) (Nat.le_of_ble_eq_true rfl) ⟨by show _ + _ ≤ 600006; omega, by show _ + _ ≤ 7302096; omega⟩ dL_law_2162 (fun H locs hM hz hu hS => ?_)
  have hC := CW.off hC hz hu (fun q hq q3 => by obtain ⟨q1, q2⟩ := q3; rcases hq with h | h <;> omega)
  refine lv_istore (lv' := [(7, .int y1.1), (6, .int z1.1), (5, .int (nI (7 * j))), (0, .ref b), (1, .ref (B + 0)), (2, .ref (B + 202 + 0)), (3, .ref (B + 212)), (4, .ref (B + 213))]) hx hb dL_law_2165 hl (by decide) rfl (fun ls hl => ?_)
  refine lv_aload_n hx hb dL_law_2167 rfl (lv_at hl 5 rfl) ?_
  refine mg_cV (As := []) (rest := []) hx hb hml hown hw hE (mX12_thrown l E B (B + 202) (by omega) y1.2 (y1.2 0 4) rfl) cv_L_172 (w_recv (k := 0) (ci := 12) hE hM (by decide) rfl rfl) hM hS hAB (fun _ h => h.elim) rfl hl.1 rfl (by decide) (by decide) (Nat.le_of_ble_eq_true rfl) ⟨by show _ + _ ≤ 600006; omega, by show _ + _ ≤ 7302096; omega⟩ dL_law_2168 (fun H locs hM hz hu hS => ?_)
  have hC := CW.off hC hz hu (fun q hq q3 => q3)
  refine lv_iload hx hb dL_law_2171 (lv_at hl 1 rfl) ?_
  obtain ⟨e1, hf⟩ := gd_some hf
  have e1 : y1.2 0 4 = z1.1 := of_decide_eq_true e1
  obtain ⟨e2, hf⟩ := gd_some hf
  have e2 : z1.1 = 0 → z1.2.o = Int32.toInt64 y1.1 := of_decide_eq_true e2
  have hre := Option.some.inj hf
  subst hre
  refine lv_icmp_eq (tgt := 2178) hx hb dL_law_2173 (by decide) (fun _ => ?_) (fun c9 => absurd e1 c9)
  refine lv_iload hx hb dL_law_2178 (lv_at hl 1 rfl) ?_
  have fin : ∀ k9 n9 : Nat, k9 ≤ cs + 40 → n9 ≤ sl + 1000 → W p l e room_1 s m #[Value.ref b] below meth c H locs k9 n9 Q (F0 m 2195 ls []) := by
    intro k9 n9 g9 g8
    refine lv_goto (tgt := 2939) hx hb dL_law_2195 (by decide) ?_
    refine W.widen (k := cs + 40) (n := sl + 1000) g9 g8 ?_
    exact kk _ _ _ hC hM hS (lv_sub hl [2, 3, 4, 5, 6, 7] rfl)
  refine lv_if_ne (tgt := 2195) hx hb dL_law_2180 (by decide) (fun _ => fin _ _ (by omega) (by omega)) (fun c8 => ?_)
  have e2 := e2 c8
  obtain ⟨hG, hN, hT, hV, hHs, hQ, hR, hP, hSb, hO, hOd⟩ := hC
  refine lv_aload_n hx hb dL_law_2183 rfl (lv_at hl 6 rfl) ?_
  refine lv_iconst (v := 0) hx hb dL_law_2184 (by decide) ?_
  rw [e2] at hO
  refine w_lald hx hb hE hO dL_law_2185 ?_
  refine lv_iload hx hb dL_law_2186 (lv_at hl 0 rfl) ?_
  refine lv_i2l hx hb dL_law_2188 rfl ?_
  refine lc_eq hx hb dL_law_2189 ?_
  refine lv_if_eq (tgt := 2195) hx hb dL_law_2190 (by decide) (fun _ => fin _ _ (by omega) (by omega)) (fun c7 => absurd rfl c7)
noncomputable def fC_logBegin (z : KS) (M : Mem) (p1 : Int32) : Option (KS × Mem) := (fL_logBegin z p1).bind fun z1 => (fX12_logBegin M p1).bind fun y1 => gd (decide (y1.2 0 4 = z1.1)) (gd (decide (z1.1 = 0 → z1.2.o = Int32.toInt64 y1.1)) (some (z1.2, y1.2)))
set_option maxHeartbeats 4000000 in
set_option maxRecDepth 100000 in
theorem lawC_logBegin {p : Program} {l : Launch} {e : Env} {s : State} {m : MethodId} {below : List Frame} {meth : Method} {c : Code} {E : EP} {b L B : Nat} {xs : Nat → Int32} {Q : State → Prop} (X : LC p l e s m meth c E b L B xs) {j : Nat} (hj : 7 * j + 7 ≤ L) {z : KS} {M : Mem} {r : KS × Mem} (hf : fC_logBegin z M (xs (7 * j + 1)) = some r) {H : Heap} {locs : List Loc} {ls : Array Slot} {cs sl : Nat} (hcs : cs + 40 ≤ 600006) (hsl : sl + 1000 ≤ 7302096) (hC : CW E B z H) (hM : Blk E (B + 202) modSh 10 M H) (hS : va_S (fun q => B ≤ q) s.heap H locs) (hl : lv_has ls 9 (lawL b B j)) (kk : LK p l e s m below meth c E b B Q j (cs + 40) (sl + 1000) r) : W p l e room_1 s m #[Value.ref b] below meth c H locs cs sl Q (F0 m 2198 ls []) := by
  obtain ⟨hx, hb, hml, hown, hw, hE, htr, hX, hbl, hbB, hL3⟩ := X
  have hAB : ∀ q, (fun q => B ≤ q) q → B ≤ q := fun _ h => h
  unfold fC_logBegin at hf
  refine lv_aload_n hx hb dL_law_2198 rfl (lv_at hl 2 rfl) ?_
  refine lv_aload_n hx hb dL_law_2199 rfl (lv_at hl 1 rfl) ?_
  refine lv_iload hx hb dL_law_2200 (lv_at hl 0 rfl) ?_
  refine lv_iconst (v := 1) hx hb dL_law_2202 (by decide) ?_
  refine lv_iadd hx hb dL_law_2203 ?_
  refine sc_ld (k := 1) hx hb hX hbl hbB hS hj hL3 (by decide) rfl dL_law_2204 ?_
  refine lv_aload_n hx hb dL_law_2205 rfl (lv_at hl 4 rfl) ?_
  obtain ⟨z1, hc1, hf⟩ := br_some hf
  refine mg_cW (As := [.ref (B + 0), .int (xs (7 * j + 1)), .ref (B + 212)]) (rest := []) hx hb hml hown hw hE (mL_logBegin l E B htr B (Nat.le_refl B) z (xs (7 * j + 1)) z1 hc1) cw_L_282 hC hS hAB (cA_ge (Nat.le_refl B)) rfl hl.1 rfl (by decide) (by decide) (Nat.le_of_ble_eq_true rfl) ⟨by show _ + _ ≤ 600006; omega, by show _ + _ ≤ 7302096; omega⟩ dL_law_2206 (fun H locs hC hz hu hS => ?_)
  have hM := Blk.off hM hu (fun q q1 q2 q3 => by rcases q3 with h | h <;> omega)
  refine lv_istore (lv' := [(6, .int z1.1), (5, .int (nI (7 * j))), (0, .ref b), (1, .ref (B + 0)), (2, .ref (B + 202 + 0)), (3, .ref (B + 212)), (4, .ref (B + 213))]) hx hb dL_law_2209 hl (by decide) rfl (fun ls hl => ?_)
  refine lv_aload_n hx hb dL_law_2211 rfl (lv_at hl 4 rfl) ?_
  refine lv_aload_n hx hb dL_law_2212 rfl (lv_at hl 2 rfl) ?_
  refine lv_iload hx hb dL_law_2213 (lv_at hl 1 rfl) ?_
  refine lv_iconst (v := 1) hx hb dL_law_2215 (by decide) ?_
  refine lv_iadd hx hb dL_law_2216 ?_
  refine sc_ld (k := 1) hx hb hX hbl hbB hS hj hL3 (by decide) rfl dL_law_2217 ?_
  obtain ⟨y1, hc2, hf⟩ := br_some hf
  refine mg_cV (As := [.int (xs (7 * j + 1))]) (rest := []) hx hb hml hown hw hE (mX12_logBegin l E B (B + 202) (by omega) M (xs (7 * j + 1)) y1 hc2) cv_L_284 (w_recv (k := 0) (ci := 12) hE hM (by decide) rfl rfl) hM hS hAB (fun q h => Nat.le_trans (Nat.le_add_right B 202) h.1) rfl hl.1 rfl (by decide) (by decide) (Nat.le_of_ble_eq_true rfl) ⟨by show _ + _ ≤ 600006; omega, by show _ + _ ≤ 7302096; omega⟩ dL_law_2218 (fun H locs hM hz hu hS => ?_)
  have hC := CW.off hC hz hu (fun q hq q3 => by obtain ⟨q1, q2⟩ := q3; rcases hq with h | h <;> omega)
  refine lv_istore (lv' := [(7, .int y1.1), (6, .int z1.1), (5, .int (nI (7 * j))), (0, .ref b), (1, .ref (B + 0)), (2, .ref (B + 202 + 0)), (3, .ref (B + 212)), (4, .ref (B + 213))]) hx hb dL_law_2221 hl (by decide) rfl (fun ls hl => ?_)
  refine lv_aload_n hx hb dL_law_2223 rfl (lv_at hl 5 rfl) ?_
  refine mg_cV (As := []) (rest := []) hx hb hml hown hw hE (mX12_thrown l E B (B + 202) (by omega) y1.2 (y1.2 0 4) rfl) cv_L_172 (w_recv (k := 0) (ci := 12) hE hM (by decide) rfl rfl) hM hS hAB (fun _ h => h.elim) rfl hl.1 rfl (by decide) (by decide) (Nat.le_of_ble_eq_true rfl) ⟨by show _ + _ ≤ 600006; omega, by show _ + _ ≤ 7302096; omega⟩ dL_law_2224 (fun H locs hM hz hu hS => ?_)
  have hC := CW.off hC hz hu (fun q hq q3 => q3)
  refine lv_iload hx hb dL_law_2227 (lv_at hl 1 rfl) ?_
  obtain ⟨e1, hf⟩ := gd_some hf
  have e1 : y1.2 0 4 = z1.1 := of_decide_eq_true e1
  obtain ⟨e2, hf⟩ := gd_some hf
  have e2 : z1.1 = 0 → z1.2.o = Int32.toInt64 y1.1 := of_decide_eq_true e2
  have hre := Option.some.inj hf
  subst hre
  refine lv_icmp_eq (tgt := 2234) hx hb dL_law_2229 (by decide) (fun _ => ?_) (fun c9 => absurd e1 c9)
  refine lv_iload hx hb dL_law_2234 (lv_at hl 1 rfl) ?_
  have fin : ∀ k9 n9 : Nat, k9 ≤ cs + 40 → n9 ≤ sl + 1000 → W p l e room_1 s m #[Value.ref b] below meth c H locs k9 n9 Q (F0 m 2251 ls []) := by
    intro k9 n9 g9 g8
    refine lv_goto (tgt := 2939) hx hb dL_law_2251 (by decide) ?_
    refine W.widen (k := cs + 40) (n := sl + 1000) g9 g8 ?_
    exact kk _ _ _ hC hM hS (lv_sub hl [2, 3, 4, 5, 6, 7] rfl)
  refine lv_if_ne (tgt := 2251) hx hb dL_law_2236 (by decide) (fun _ => fin _ _ (by omega) (by omega)) (fun c8 => ?_)
  have e2 := e2 c8
  obtain ⟨hG, hN, hT, hV, hHs, hQ, hR, hP, hSb, hO, hOd⟩ := hC
  refine lv_aload_n hx hb dL_law_2239 rfl (lv_at hl 6 rfl) ?_
  refine lv_iconst (v := 0) hx hb dL_law_2240 (by decide) ?_
  rw [e2] at hO
  refine w_lald hx hb hE hO dL_law_2241 ?_
  refine lv_iload hx hb dL_law_2242 (lv_at hl 0 rfl) ?_
  refine lv_i2l hx hb dL_law_2244 rfl ?_
  refine lc_eq hx hb dL_law_2245 ?_
  refine lv_if_eq (tgt := 2251) hx hb dL_law_2246 (by decide) (fun _ => fin _ _ (by omega) (by omega)) (fun c7 => absurd rfl c7)
noncomputable def fC_logMinutes (z : KS) (M : Mem) (p1 : Int32) : Option (KS × Mem) := (fL_logMinutes z p1).bind fun z1 => (fX12_logMinutes M p1).bind fun y1 => gd (decide (y1.2 0 4 = z1.1)) (gd (decide (z1.1 = 0 → z1.2.o = Int32.toInt64 y1.1)) (some (z1.2, y1.2)))
set_option maxHeartbeats 4000000 in
set_option maxRecDepth 100000 in
theorem lawC_logMinutes {p : Program} {l : Launch} {e : Env} {s : State} {m : MethodId} {below : List Frame} {meth : Method} {c : Code} {E : EP} {b L B : Nat} {xs : Nat → Int32} {Q : State → Prop} (X : LC p l e s m meth c E b L B xs) {j : Nat} (hj : 7 * j + 7 ≤ L) {z : KS} {M : Mem} {r : KS × Mem} (hf : fC_logMinutes z M (xs (7 * j + 1)) = some r) {H : Heap} {locs : List Loc} {ls : Array Slot} {cs sl : Nat} (hcs : cs + 40 ≤ 600006) (hsl : sl + 1000 ≤ 7302096) (hC : CW E B z H) (hM : Blk E (B + 202) modSh 10 M H) (hS : va_S (fun q => B ≤ q) s.heap H locs) (hl : lv_has ls 9 (lawL b B j)) (kk : LK p l e s m below meth c E b B Q j (cs + 40) (sl + 1000) r) : W p l e room_1 s m #[Value.ref b] below meth c H locs cs sl Q (F0 m 2254 ls []) := by
  obtain ⟨hx, hb, hml, hown, hw, hE, htr, hX, hbl, hbB, hL3⟩ := X
  have hAB : ∀ q, (fun q => B ≤ q) q → B ≤ q := fun _ h => h
  unfold fC_logMinutes at hf
  refine lv_aload_n hx hb dL_law_2254 rfl (lv_at hl 2 rfl) ?_
  refine lv_aload_n hx hb dL_law_2255 rfl (lv_at hl 1 rfl) ?_
  refine lv_iload hx hb dL_law_2256 (lv_at hl 0 rfl) ?_
  refine lv_iconst (v := 1) hx hb dL_law_2258 (by decide) ?_
  refine lv_iadd hx hb dL_law_2259 ?_
  refine sc_ld (k := 1) hx hb hX hbl hbB hS hj hL3 (by decide) rfl dL_law_2260 ?_
  refine lv_aload_n hx hb dL_law_2261 rfl (lv_at hl 4 rfl) ?_
  obtain ⟨z1, hc1, hf⟩ := br_some hf
  refine mg_cW (As := [.ref (B + 0), .int (xs (7 * j + 1)), .ref (B + 212)]) (rest := []) hx hb hml hown hw hE (mL_logMinutes l E B htr B (Nat.le_refl B) z (xs (7 * j + 1)) z1 hc1) cw_L_285 hC hS hAB (cA_ge (Nat.le_refl B)) rfl hl.1 rfl (by decide) (by decide) (Nat.le_of_ble_eq_true rfl) ⟨by show _ + _ ≤ 600006; omega, by show _ + _ ≤ 7302096; omega⟩ dL_law_2262 (fun H locs hC hz hu hS => ?_)
  have hM := Blk.off hM hu (fun q q1 q2 q3 => by rcases q3 with h | h <;> omega)
  refine lv_istore (lv' := [(6, .int z1.1), (5, .int (nI (7 * j))), (0, .ref b), (1, .ref (B + 0)), (2, .ref (B + 202 + 0)), (3, .ref (B + 212)), (4, .ref (B + 213))]) hx hb dL_law_2265 hl (by decide) rfl (fun ls hl => ?_)
  refine lv_aload_n hx hb dL_law_2267 rfl (lv_at hl 4 rfl) ?_
  refine lv_aload_n hx hb dL_law_2268 rfl (lv_at hl 2 rfl) ?_
  refine lv_iload hx hb dL_law_2269 (lv_at hl 1 rfl) ?_
  refine lv_iconst (v := 1) hx hb dL_law_2271 (by decide) ?_
  refine lv_iadd hx hb dL_law_2272 ?_
  refine sc_ld (k := 1) hx hb hX hbl hbB hS hj hL3 (by decide) rfl dL_law_2273 ?_
  obtain ⟨y1, hc2, hf⟩ := br_some hf
  refine mg_cV (As := [.int (xs (7 * j + 1))]) (rest := []) hx hb hml hown hw hE (mX12_logMinutes l E B (B + 202) (by omega) M (xs (7 * j + 1)) y1 hc2) cv_L_287 (w_recv (k := 0) (ci := 12) hE hM (by decide) rfl rfl) hM hS hAB (fun q h => Nat.le_trans (Nat.le_add_right B 202) h.1) rfl hl.1 rfl (by decide) (by decide) (Nat.le_of_ble_eq_true rfl) ⟨by show _ + _ ≤ 600006; omega, by show _ + _ ≤ 7302096; omega⟩ dL_law_2274 (fun H locs hM hz hu hS => ?_)
  have hC := CW.off hC hz hu (fun q hq q3 => by obtain ⟨q1, q2⟩ := q3; rcases hq with h | h <;> omega)
  refine lv_istore (lv' := [(7, .int y1.1), (6, .int z1.1), (5, .int (nI (7 * j))), (0, .ref b), (1, .ref (B + 0)), (2, .ref (B + 202 + 0)), (3, .ref (B + 212)), (4, .ref (B + 213))]) hx hb dL_law_2277 hl (by decide) rfl (fun ls hl => ?_)
  refine lv_aload_n hx hb dL_law_2279 rfl (lv_at hl 5 rfl) ?_
  refine mg_cV (As := []) (rest := []) hx hb hml hown hw hE (mX12_thrown l E B (B + 202) (by omega) y1.2 (y1.2 0 4) rfl) cv_L_172 (w_recv (k := 0) (ci := 12) hE hM (by decide) rfl rfl) hM hS hAB (fun _ h => h.elim) rfl hl.1 rfl (by decide) (by decide) (Nat.le_of_ble_eq_true rfl) ⟨by show _ + _ ≤ 600006; omega, by show _ + _ ≤ 7302096; omega⟩ dL_law_2280 (fun H locs hM hz hu hS => ?_)
  have hC := CW.off hC hz hu (fun q hq q3 => q3)
  refine lv_iload hx hb dL_law_2283 (lv_at hl 1 rfl) ?_
  obtain ⟨e1, hf⟩ := gd_some hf
  have e1 : y1.2 0 4 = z1.1 := of_decide_eq_true e1
  obtain ⟨e2, hf⟩ := gd_some hf
  have e2 : z1.1 = 0 → z1.2.o = Int32.toInt64 y1.1 := of_decide_eq_true e2
  have hre := Option.some.inj hf
  subst hre
  refine lv_icmp_eq (tgt := 2290) hx hb dL_law_2285 (by decide) (fun _ => ?_) (fun c9 => absurd e1 c9)
  refine lv_iload hx hb dL_law_2290 (lv_at hl 1 rfl) ?_
  have fin : ∀ k9 n9 : Nat, k9 ≤ cs + 40 → n9 ≤ sl + 1000 → W p l e room_1 s m #[Value.ref b] below meth c H locs k9 n9 Q (F0 m 2307 ls []) := by
    intro k9 n9 g9 g8
    refine lv_goto (tgt := 2939) hx hb dL_law_2307 (by decide) ?_
    refine W.widen (k := cs + 40) (n := sl + 1000) g9 g8 ?_
    exact kk _ _ _ hC hM hS (lv_sub hl [2, 3, 4, 5, 6, 7] rfl)
  refine lv_if_ne (tgt := 2307) hx hb dL_law_2292 (by decide) (fun _ => fin _ _ (by omega) (by omega)) (fun c8 => ?_)
  have e2 := e2 c8
  obtain ⟨hG, hN, hT, hV, hHs, hQ, hR, hP, hSb, hO, hOd⟩ := hC
  refine lv_aload_n hx hb dL_law_2295 rfl (lv_at hl 6 rfl) ?_
  refine lv_iconst (v := 0) hx hb dL_law_2296 (by decide) ?_
  rw [e2] at hO
  refine w_lald hx hb hE hO dL_law_2297 ?_
  refine lv_iload hx hb dL_law_2298 (lv_at hl 0 rfl) ?_
  refine lv_i2l hx hb dL_law_2300 rfl ?_
  refine lc_eq hx hb dL_law_2301 ?_
  refine lv_if_eq (tgt := 2307) hx hb dL_law_2302 (by decide) (fun _ => fin _ _ (by omega) (by omega)) (fun c7 => absurd rfl c7)
noncomputable def fC_time (z : KS) (M : Mem) : Option (KS × Mem) := (fX11_time z.G z.N).bind fun z1 => (fX12_time M).bind fun y1 => gd (decide (z1 = y1.1)) (some (z, y1.2))
set_option maxHeartbeats 4000000 in
set_option maxRecDepth 100000 in
theorem lawC_time {p : Program} {l : Launch} {e : Env} {s : State} {m : MethodId} {below : List Frame} {meth : Method} {c : Code} {E : EP} {b L B : Nat} {xs : Nat → Int32} {Q : State → Prop} (X : LC p l e s m meth c E b L B xs) {j : Nat} (hj : 7 * j + 7 ≤ L) {z : KS} {M : Mem} {r : KS × Mem} (hf : fC_time z M = some r) {H : Heap} {locs : List Loc} {ls : Array Slot} {cs sl : Nat} (hcs : cs + 40 ≤ 600006) (hsl : sl + 1000 ≤ 7302096) (hC : CW E B z H) (hM : Blk E (B + 202) modSh 10 M H) (hS : va_S (fun q => B ≤ q) s.heap H locs) (hl : lv_has ls 9 (lawL b B j)) (kk : LK p l e s m below meth c E b B Q j (cs + 40) (sl + 1000) r) : W p l e room_1 s m #[Value.ref b] below meth c H locs cs sl Q (F0 m 2310 ls []) := by
  obtain ⟨hx, hb, hml, hown, hw, hE, htr, hX, hbl, hbB, hL3⟩ := X
  have hAB : ∀ q, (fun q => B ≤ q) q → B ≤ q := fun _ h => h
  unfold fC_time at hf
  refine lv_aload_n hx hb dL_law_2310 rfl (lv_at hl 2 rfl) ?_
  obtain ⟨hG, hN, hT, hV, hHs, hQ, hR, hP, hSb, hO, hOd⟩ := hC
  obtain ⟨z1, hc1, hf⟩ := br_some hf
  refine mg_cV (As := []) (rest := []) hx hb hml hown hw hE (mX11_time l E B B (B + 214) (Nat.le_refl B) (by omega) z.G z.N z1 hc1) cv_L_288 (w_recv (k := 0) (ci := 11) hE hG (by decide) rfl rfl) ⟨hG, hN⟩ hS hAB (fun _ h => h.elim) rfl hl.1 rfl (by decide) (by decide) (Nat.le_of_ble_eq_true rfl) ⟨by show _ + _ ≤ 600006; omega, by show _ + _ ≤ 7302096; omega⟩ dL_law_2311 (fun H locs hP9 hz hu hS => ?_)
  obtain ⟨hG, hN⟩ := hP9
  have hT := Blk.off hT hu (fun _ _ _ h => h)
  have hV := Blk.off hV hu (fun _ _ _ h => h)
  have hHs := Blk.off hHs hu (fun _ _ _ h => h)
  have hQ := Fam.off hQ hu (fun _ _ _ h => h)
  have hR := Blk.off hR hu (fun _ _ _ h => h)
  have hP := Blk.off hP hu (fun _ _ _ h => h)
  have hSb := SBt.off hSb hz hu (fun _ _ h => h)
  have hO := LO.off hO hu (fun h => h)
  have hOd := LD.off hOd hu (fun h => h)
  have hM := Blk.off hM hu (fun q q1 q2 q3 => q3)
  have hC : CW E B z H := ⟨hG, hN, hT, hV, hHs, hQ, hR, hP, hSb, hO, hOd⟩
  refine lv_aload_n hx hb dL_law_2314 rfl (lv_at hl 3 rfl) ?_
  obtain ⟨y1, hc2, hf⟩ := br_some hf
  refine mg_cV (As := []) (rest := [.int z1]) hx hb hml hown hw hE (mX12_time l E B (B + 202) (by omega) M y1 hc2) cv_L_291 (w_recv (k := 0) (ci := 12) hE hM (by decide) rfl rfl) hM hS hAB (fun q h => Nat.le_trans (Nat.le_add_right B 202) h.1) rfl hl.1 rfl (by decide) (by decide) (Nat.le_of_ble_eq_true rfl) ⟨by show _ + _ ≤ 600006; omega, by show _ + _ ≤ 7302096; omega⟩ dL_law_2315 (fun H locs hM hz hu hS => ?_)
  have hC := CW.off hC hz hu (fun q hq q3 => by obtain ⟨q1, q2⟩ := q3; rcases hq with h | h <;> omega)
  obtain ⟨e1, hf⟩ := gd_some hf
  have e1 : z1 = y1.1 := of_decide_eq_true e1
  have hre := Option.some.inj hf
  subst hre
  refine lv_icmp_eq (tgt := 2939) hx hb dL_law_2318 (by decide) (fun _ => ?_) (fun c9 => absurd e1 c9)
  refine W.widen (k := cs + 40) (n := sl + 1000) (by omega) (by omega) ?_
  exact kk _ _ _ hC hM hS hl
noncomputable def fC_turnLimit (z : KS) (M : Mem) : Option (KS × Mem) := (fX11_turnLimit z.G z.N).bind fun z1 => (fX12_turnLimit M).bind fun y1 => gd (decide (z1 = y1.1)) (some (z, y1.2))
set_option maxHeartbeats 4000000 in
set_option maxRecDepth 100000 in
theorem lawC_turnLimit {p : Program} {l : Launch} {e : Env} {s : State} {m : MethodId} {below : List Frame} {meth : Method} {c : Code} {E : EP} {b L B : Nat} {xs : Nat → Int32} {Q : State → Prop} (X : LC p l e s m meth c E b L B xs) {j : Nat} (hj : 7 * j + 7 ≤ L) {z : KS} {M : Mem} {r : KS × Mem} (hf : fC_turnLimit z M = some r) {H : Heap} {locs : List Loc} {ls : Array Slot} {cs sl : Nat} (hcs : cs + 40 ≤ 600006) (hsl : sl + 1000 ≤ 7302096) (hC : CW E B z H) (hM : Blk E (B + 202) modSh 10 M H) (hS : va_S (fun q => B ≤ q) s.heap H locs) (hl : lv_has ls 9 (lawL b B j)) (kk : LK p l e s m below meth c E b B Q j (cs + 40) (sl + 1000) r) : W p l e room_1 s m #[Value.ref b] below meth c H locs cs sl Q (F0 m 2323 ls []) := by
  obtain ⟨hx, hb, hml, hown, hw, hE, htr, hX, hbl, hbB, hL3⟩ := X
  have hAB : ∀ q, (fun q => B ≤ q) q → B ≤ q := fun _ h => h
  unfold fC_turnLimit at hf
  refine lv_aload_n hx hb dL_law_2323 rfl (lv_at hl 2 rfl) ?_
  obtain ⟨hG, hN, hT, hV, hHs, hQ, hR, hP, hSb, hO, hOd⟩ := hC
  obtain ⟨z1, hc1, hf⟩ := br_some hf
  refine mg_cV (As := []) (rest := []) hx hb hml hown hw hE (mX11_turnLimit l E B B (B + 214) (Nat.le_refl B) (by omega) z.G z.N z1 hc1) cv_L_292 (w_recv (k := 0) (ci := 11) hE hG (by decide) rfl rfl) ⟨hG, hN⟩ hS hAB (fun _ h => h.elim) rfl hl.1 rfl (by decide) (by decide) (Nat.le_of_ble_eq_true rfl) ⟨by show _ + _ ≤ 600006; omega, by show _ + _ ≤ 7302096; omega⟩ dL_law_2324 (fun H locs hP9 hz hu hS => ?_)
  obtain ⟨hG, hN⟩ := hP9
  have hT := Blk.off hT hu (fun _ _ _ h => h)
  have hV := Blk.off hV hu (fun _ _ _ h => h)
  have hHs := Blk.off hHs hu (fun _ _ _ h => h)
  have hQ := Fam.off hQ hu (fun _ _ _ h => h)
  have hR := Blk.off hR hu (fun _ _ _ h => h)
  have hP := Blk.off hP hu (fun _ _ _ h => h)
  have hSb := SBt.off hSb hz hu (fun _ _ h => h)
  have hO := LO.off hO hu (fun h => h)
  have hOd := LD.off hOd hu (fun h => h)
  have hM := Blk.off hM hu (fun q q1 q2 q3 => q3)
  have hC : CW E B z H := ⟨hG, hN, hT, hV, hHs, hQ, hR, hP, hSb, hO, hOd⟩
  refine lv_aload_n hx hb dL_law_2327 rfl (lv_at hl 3 rfl) ?_
  obtain ⟨y1, hc2, hf⟩ := br_some hf
  refine mg_cV (As := []) (rest := [.int z1]) hx hb hml hown hw hE (mX12_turnLimit l E B (B + 202) (by omega) M y1 hc2) cv_L_295 (w_recv (k := 0) (ci := 12) hE hM (by decide) rfl rfl) hM hS hAB (fun q h => Nat.le_trans (Nat.le_add_right B 202) h.1) rfl hl.1 rfl (by decide) (by decide) (Nat.le_of_ble_eq_true rfl) ⟨by show _ + _ ≤ 600006; omega, by show _ + _ ≤ 7302096; omega⟩ dL_law_2328 (fun H locs hM hz hu hS => ?_)
  have hC := CW.off hC hz hu (fun q hq q3 => by obtain ⟨q1, q2⟩ := q3; rcases hq with h | h <;> omega)
  obtain ⟨e1, hf⟩ := gd_some hf
  have e1 : z1 = y1.1 := of_decide_eq_true e1
  have hre := Option.some.inj hf
  subst hre
  refine lv_icmp_eq (tgt := 2939) hx hb dL_law_2331 (by decide) (fun _ => ?_) (fun c9 => absurd e1 c9)
  refine W.widen (k := cs + 40) (n := sl + 1000) (by omega) (by omega) ?_
  exact kk _ _ _ hC hM hS hl
noncomputable def fC_meanPower (z : KS) (M : Mem) : Option (KS × Mem) := (fL_meanPower z).bind fun z1 => (fX12_meanPower M).bind fun y1 => gd (decide (y1.2 0 4 = z1.1)) (gd (decide (z1.1 = 0 → z1.2.od = y1.1)) (some (z1.2, y1.2)))
set_option maxHeartbeats 4000000 in
set_option maxRecDepth 100000 in
theorem lawC_meanPower {p : Program} {l : Launch} {e : Env} {s : State} {m : MethodId} {below : List Frame} {meth : Method} {c : Code} {E : EP} {b L B : Nat} {xs : Nat → Int32} {Q : State → Prop} (X : LC p l e s m meth c E b L B xs) {j : Nat} (hj : 7 * j + 7 ≤ L) {z : KS} {M : Mem} {r : KS × Mem} (hf : fC_meanPower z M = some r) {H : Heap} {locs : List Loc} {ls : Array Slot} {cs sl : Nat} (hcs : cs + 40 ≤ 600006) (hsl : sl + 1000 ≤ 7302096) (hC : CW E B z H) (hM : Blk E (B + 202) modSh 10 M H) (hS : va_S (fun q => B ≤ q) s.heap H locs) (hl : lv_has ls 9 (lawL b B j)) (kk : LK p l e s m below meth c E b B Q j (cs + 40) (sl + 1000) r) : W p l e room_1 s m #[Value.ref b] below meth c H locs cs sl Q (F0 m 2336 ls []) := by
  obtain ⟨hx, hb, hml, hown, hw, hE, htr, hX, hbl, hbB, hL3⟩ := X
  have hAB : ∀ q, (fun q => B ≤ q) q → B ≤ q := fun _ h => h
  unfold fC_meanPower at hf
  refine lv_aload_n hx hb dL_law_2336 rfl (lv_at hl 2 rfl) ?_
  refine lv_aload hx hb dL_law_2337 (lv_at hl 5 rfl) ?_
  obtain ⟨z1, hc1, hf⟩ := br_some hf
  refine mg_cW (As := [.ref (B + 0), .ref (B + 213)]) (rest := []) hx hb hml hown hw hE (mL_meanPower l E B htr B (Nat.le_refl B) z z1 hc1) cw_L_296 hC hS hAB (cA_ge (Nat.le_refl B)) rfl hl.1 rfl (by decide) (by decide) (Nat.le_of_ble_eq_true rfl) ⟨by show _ + _ ≤ 600006; omega, by show _ + _ ≤ 7302096; omega⟩ dL_law_2339 (fun H locs hC hz hu hS => ?_)
  have hM := Blk.off hM hu (fun q q1 q2 q3 => by rcases q3 with h | h <;> omega)
  refine lv_istore (lv' := [(6, .int z1.1), (5, .int (nI (7 * j))), (0, .ref b), (1, .ref (B + 0)), (2, .ref (B + 202 + 0)), (3, .ref (B + 212)), (4, .ref (B + 213))]) hx hb dL_law_2342 hl (by decide) rfl (fun ls hl => ?_)
  refine lv_aload_n hx hb dL_law_2344 rfl (lv_at hl 4 rfl) ?_
  obtain ⟨y1, hc2, hf⟩ := br_some hf
  refine mg_cV (As := []) (rest := []) hx hb hml hown hw hE (mX12_meanPower l E B (B + 202) (by omega) M y1 hc2) cv_L_299 (w_recv (k := 0) (ci := 12) hE hM (by decide) rfl rfl) hM hS hAB (fun q h => Nat.le_trans (Nat.le_add_right B 202) h.1) rfl hl.1 rfl (by decide) (by decide) (Nat.le_of_ble_eq_true rfl) ⟨by show _ + _ ≤ 600006; omega, by show _ + _ ≤ 7302096; omega⟩ dL_law_2345 (fun H locs hM hz hu hS => ?_)
  have hC := CW.off hC hz hu (fun q hq q3 => by obtain ⟨q1, q2⟩ := q3; rcases hq with h | h <;> omega)
  refine lv_dstore (lv' := [(7, .double y1.1), (6, .int z1.1), (5, .int (nI (7 * j))), (0, .ref b), (1, .ref (B + 0)), (2, .ref (B + 202 + 0)), (3, .ref (B + 212)), (4, .ref (B + 213))]) hx hb dL_law_2348 hl (by decide) rfl (fun ls hl => ?_)
  refine lv_aload_n hx hb dL_law_2350 rfl (lv_at hl 5 rfl) ?_
  refine mg_cV (As := []) (rest := []) hx hb hml hown hw hE (mX12_thrown l E B (B + 202) (by omega) y1.2 (y1.2 0 4) rfl) cv_L_172 (w_recv (k := 0) (ci := 12) hE hM (by decide) rfl rfl) hM hS hAB (fun _ h => h.elim) rfl hl.1 rfl (by decide) (by decide) (Nat.le_of_ble_eq_true rfl) ⟨by show _ + _ ≤ 600006; omega, by show _ + _ ≤ 7302096; omega⟩ dL_law_2351 (fun H locs hM hz hu hS => ?_)
  have hC := CW.off hC hz hu (fun q hq q3 => q3)
  refine lv_iload hx hb dL_law_2354 (lv_at hl 1 rfl) ?_
  obtain ⟨e1, hf⟩ := gd_some hf
  have e1 : y1.2 0 4 = z1.1 := of_decide_eq_true e1
  obtain ⟨e2, hf⟩ := gd_some hf
  have e2 : z1.1 = 0 → z1.2.od = y1.1 := of_decide_eq_true e2
  have hre := Option.some.inj hf
  subst hre
  refine lv_icmp_eq (tgt := 2361) hx hb dL_law_2356 (by decide) (fun _ => ?_) (fun c9 => absurd e1 c9)
  refine lv_iload hx hb dL_law_2361 (lv_at hl 1 rfl) ?_
  have fin : ∀ k9 n9 : Nat, k9 ≤ cs + 40 → n9 ≤ sl + 1000 → W p l e room_1 s m #[Value.ref b] below meth c H locs k9 n9 Q (F0 m 2398 ls []) := by
    intro k9 n9 g9 g8
    refine lv_goto (tgt := 2939) hx hb dL_law_2398 (by decide) ?_
    refine W.widen (k := cs + 40) (n := sl + 1000) g9 g8 ?_
    exact kk _ _ _ hC hM hS (lv_sub hl [2, 3, 4, 5, 6, 7] rfl)
  refine lv_if_ne (tgt := 2398) hx hb dL_law_2363 (by decide) (fun _ => fin _ _ (by omega) (by omega)) (fun c8 => ?_)
  have e2 := e2 c8
  obtain ⟨hG, hN, hT, hV, hHs, hQ, hR, hP, hSb, hO, hOd⟩ := hC
  have hod : LD E (B + 213) y1.1 H := by rw [e2] at hOd; exact hOd
  refine lv_aload hx hb dL_law_2366 (lv_at hl 7 rfl) ?_
  refine lv_iconst (v := 0) hx hb dL_law_2368 (by decide) ?_
  refine w_dald hx hb hE hod dL_law_2369 ?_
  refine lv_dload hx hb dL_law_2370 (lv_at hl 0 rfl) ?_
  refine lv_dcmp (op := .l) hx hb dL_law_2372 ?_
  refine lv_if_eq (tgt := 2398) hx hb dL_law_2373 (by decide) (fun _ => fin _ _ (by omega) (by omega)) (fun c7 => ?_)
  refine lv_aload hx hb dL_law_2376 (lv_at hl 7 rfl) ?_
  refine lv_iconst (v := 0) hx hb dL_law_2378 (by decide) ?_
  refine w_dald hx hb hE hod dL_law_2379 ?_
  refine lv_aload hx hb dL_law_2380 (lv_at hl 7 rfl) ?_
  refine lv_iconst (v := 0) hx hb dL_law_2382 (by decide) ?_
  refine w_dald hx hb hE hod dL_law_2383 ?_
  refine lv_dcmp (op := .l) hx hb dL_law_2384 ?_
  refine lv_if_eq (tgt := 2396) hx hb dL_law_2385 (by decide) (fun c6 => absurd c6 c7) (fun _ => ?_)
  refine lv_dload hx hb dL_law_2388 (lv_at hl 0 rfl) ?_
  refine lv_dload hx hb dL_law_2390 (lv_at hl 0 rfl) ?_
  refine lv_dcmp (op := .l) hx hb dL_law_2392 ?_
  exact lv_if_ne (tgt := 2398) hx hb dL_law_2393 (by decide) (fun _ => fin _ _ (by omega) (by omega)) (fun c6 => absurd c6 c7)
noncomputable def fC_airtime (z : KS) (M : Mem) : Option (KS × Mem) := (fL_airtime z).bind fun z1 => (fX12_airtime M).bind fun y1 => gd (decide (y1.2 0 4 = z1.1)) (gd (decide (z1.1 = 0 → (y1.1 &&& 0x7fffffff ≤ 0x7f800000 ∧ z1.2.od = FP.f2d y1.1))) (some (z1.2, y1.2)))
set_option maxHeartbeats 4000000 in
set_option maxRecDepth 100000 in
theorem lawC_airtime {p : Program} {l : Launch} {e : Env} {s : State} {m : MethodId} {below : List Frame} {meth : Method} {c : Code} {E : EP} {b L B : Nat} {xs : Nat → Int32} {Q : State → Prop} (X : LC p l e s m meth c E b L B xs) {j : Nat} (hj : 7 * j + 7 ≤ L) {z : KS} {M : Mem} {r : KS × Mem} (hf : fC_airtime z M = some r) {H : Heap} {locs : List Loc} {ls : Array Slot} {cs sl : Nat} (hcs : cs + 40 ≤ 600006) (hsl : sl + 1000 ≤ 7302096) (hC : CW E B z H) (hM : Blk E (B + 202) modSh 10 M H) (hS : va_S (fun q => B ≤ q) s.heap H locs) (hl : lv_has ls 9 (lawL b B j)) (kk : LK p l e s m below meth c E b B Q j (cs + 40) (sl + 1000) r) : W p l e room_1 s m #[Value.ref b] below meth c H locs cs sl Q (F0 m 2401 ls []) := by
  obtain ⟨hx, hb, hml, hown, hw, hE, htr, hX, hbl, hbB, hL3⟩ := X
  have hAB : ∀ q, (fun q => B ≤ q) q → B ≤ q := fun _ h => h
  unfold fC_airtime at hf
  refine lv_aload_n hx hb dL_law_2401 rfl (lv_at hl 2 rfl) ?_
  refine lv_aload hx hb dL_law_2402 (lv_at hl 5 rfl) ?_
  obtain ⟨z1, hc1, hf⟩ := br_some hf
  refine mg_cW (As := [.ref (B + 0), .ref (B + 213)]) (rest := []) hx hb hml hown hw hE (mL_airtime l E B htr B (Nat.le_refl B) z z1 hc1) cw_L_300 hC hS hAB (cA_ge (Nat.le_refl B)) rfl hl.1 rfl (by decide) (by decide) (Nat.le_of_ble_eq_true rfl) ⟨by show _ + _ ≤ 600006; omega, by show _ + _ ≤ 7302096; omega⟩ dL_law_2404 (fun H locs hC hz hu hS => ?_)
  have hM := Blk.off hM hu (fun q q1 q2 q3 => by rcases q3 with h | h <;> omega)
  refine lv_istore (lv' := [(6, .int z1.1), (5, .int (nI (7 * j))), (0, .ref b), (1, .ref (B + 0)), (2, .ref (B + 202 + 0)), (3, .ref (B + 212)), (4, .ref (B + 213))]) hx hb dL_law_2407 hl (by decide) rfl (fun ls hl => ?_)
  refine lv_aload_n hx hb dL_law_2409 rfl (lv_at hl 4 rfl) ?_
  obtain ⟨y1, hc2, hf⟩ := br_some hf
  refine mg_cV (As := []) (rest := []) hx hb hml hown hw hE (mX12_airtime l E B (B + 202) (by omega) M y1 hc2) cv_L_302 (w_recv (k := 0) (ci := 12) hE hM (by decide) rfl rfl) hM hS hAB (fun q h => Nat.le_trans (Nat.le_add_right B 202) h.1) rfl hl.1 rfl (by decide) (by decide) (Nat.le_of_ble_eq_true rfl) ⟨by show _ + _ ≤ 600006; omega, by show _ + _ ≤ 7302096; omega⟩ dL_law_2410 (fun H locs hM hz hu hS => ?_)
  have hC := CW.off hC hz hu (fun q hq q3 => by obtain ⟨q1, q2⟩ := q3; rcases hq with h | h <;> omega)
  refine lv_fstore (lv' := [(7, .float y1.1), (6, .int z1.1), (5, .int (nI (7 * j))), (0, .ref b), (1, .ref (B + 0)), (2, .ref (B + 202 + 0)), (3, .ref (B + 212)), (4, .ref (B + 213))]) hx hb dL_law_2413 hl (by decide) rfl (fun ls hl => ?_)
  refine lv_aload_n hx hb dL_law_2415 rfl (lv_at hl 5 rfl) ?_
  refine mg_cV (As := []) (rest := []) hx hb hml hown hw hE (mX12_thrown l E B (B + 202) (by omega) y1.2 (y1.2 0 4) rfl) cv_L_172 (w_recv (k := 0) (ci := 12) hE hM (by decide) rfl rfl) hM hS hAB (fun _ h => h.elim) rfl hl.1 rfl (by decide) (by decide) (Nat.le_of_ble_eq_true rfl) ⟨by show _ + _ ≤ 600006; omega, by show _ + _ ≤ 7302096; omega⟩ dL_law_2416 (fun H locs hM hz hu hS => ?_)
  have hC := CW.off hC hz hu (fun q hq q3 => q3)
  refine lv_iload hx hb dL_law_2419 (lv_at hl 1 rfl) ?_
  obtain ⟨e1, hf⟩ := gd_some hf
  have e1 : y1.2 0 4 = z1.1 := of_decide_eq_true e1
  obtain ⟨e2, hf⟩ := gd_some hf
  have e2 : z1.1 = 0 → (y1.1 &&& 0x7fffffff ≤ 0x7f800000 ∧ z1.2.od = FP.f2d y1.1) := of_decide_eq_true e2
  have hre := Option.some.inj hf
  subst hre
  refine lv_icmp_eq (tgt := 2426) hx hb dL_law_2421 (by decide) (fun _ => ?_) (fun c9 => absurd e1 c9)
  refine lv_iload hx hb dL_law_2426 (lv_at hl 1 rfl) ?_
  have fin : ∀ k9 n9 : Nat, k9 ≤ cs + 40 → n9 ≤ sl + 1000 → W p l e room_1 s m #[Value.ref b] below meth c H locs k9 n9 Q (F0 m 2464 ls []) := by
    intro k9 n9 g9 g8
    refine lv_goto (tgt := 2939) hx hb dL_law_2464 (by decide) ?_
    refine W.widen (k := cs + 40) (n := sl + 1000) g9 g8 ?_
    exact kk _ _ _ hC hM hS (lv_sub hl [2, 3, 4, 5, 6, 7] rfl)
  refine lv_if_ne (tgt := 2464) hx hb dL_law_2428 (by decide) (fun _ => fin _ _ (by omega) (by omega)) (fun c8 => ?_)
  have e2 := e2 c8
  obtain ⟨hG, hN, hT, hV, hHs, hQ, hR, hP, hSb, hO, hOd⟩ := hC
  have hod : LD E (B + 213) (FP.f2d y1.1) H := by rw [e2.2] at hOd; exact hOd
  refine lv_aload hx hb dL_law_2431 (lv_at hl 7 rfl) ?_
  refine lv_iconst (v := 0) hx hb dL_law_2433 (by decide) ?_
  refine w_dald hx hb hE hod dL_law_2434 ?_
  refine lv_fload hx hb dL_law_2435 (lv_at hl 0 rfl) ?_
  refine lv_f2d hx hb dL_law_2437 (fp_f2d y1.1 e2.1) ?_
  refine lv_dcmp (op := .l) hx hb dL_law_2438 ?_
  rw [fp_self (fp_f2d y1.1 e2.1)]
  exact lv_if_eq (tgt := 2464) hx hb dL_law_2439 (by decide) (fun _ => fin _ _ (by omega) (by omega)) (fun c7 => absurd rfl c7)
noncomputable def fC_isConsistent (z : KS) (M : Mem) : Option (KS × Mem) := (fX11_isConsistent z.G z.N z.T z.R).bind fun z1 => (fX12_isConsistent M).bind fun y1 => gd (decide (z1.1 = y1.1)) (some ((KS.mk z.G z.N z1.2.1 z.V z.Hs z.Q z1.2.2 z.P z.Sb z.o z.od), y1.2))
set_option maxHeartbeats 4000000 in
set_option maxRecDepth 100000 in
theorem lawC_isConsistent {p : Program} {l : Launch} {e : Env} {s : State} {m : MethodId} {below : List Frame} {meth : Method} {c : Code} {E : EP} {b L B : Nat} {xs : Nat → Int32} {Q : State → Prop} (X : LC p l e s m meth c E b L B xs) {j : Nat} (hj : 7 * j + 7 ≤ L) {z : KS} {M : Mem} {r : KS × Mem} (hf : fC_isConsistent z M = some r) {H : Heap} {locs : List Loc} {ls : Array Slot} {cs sl : Nat} (hcs : cs + 40 ≤ 600006) (hsl : sl + 1000 ≤ 7302096) (hC : CW E B z H) (hM : Blk E (B + 202) modSh 10 M H) (hS : va_S (fun q => B ≤ q) s.heap H locs) (hl : lv_has ls 9 (lawL b B j)) (kk : LK p l e s m below meth c E b B Q j (cs + 40) (sl + 1000) r) : W p l e room_1 s m #[Value.ref b] below meth c H locs cs sl Q (F0 m 2467 ls []) := by
  obtain ⟨hx, hb, hml, hown, hw, hE, htr, hX, hbl, hbB, hL3⟩ := X
  have hAB : ∀ q, (fun q => B ≤ q) q → B ≤ q := fun _ h => h
  unfold fC_isConsistent at hf
  refine lv_aload_n hx hb dL_law_2467 rfl (lv_at hl 2 rfl) ?_
  obtain ⟨hG, hN, hT, hV, hHs, hQ, hR, hP, hSb, hO, hOd⟩ := hC
  obtain ⟨z1, hc1, hf⟩ := br_some hf
  refine mg_cV (As := []) (rest := []) hx hb hml hown hw hE (mX11_isConsistent l E B B (B + 214) (Nat.le_refl B) (by omega) z.G z.N z.T z.R z1 hc1) cv_L_303 (w_recv (k := 0) (ci := 11) hE hG (by decide) rfl rfl) ⟨hG, hN, hT, hR⟩ hS hAB (fun q h => by simp only [orA, iv, nv, sbA] at h; show B ≤ q; omega) rfl hl.1 rfl (by decide) (by decide) (Nat.le_of_ble_eq_true rfl) ⟨by show _ + _ ≤ 600006; omega, by show _ + _ ≤ 7302096; omega⟩ dL_law_2468 (fun H locs hP9 hz hu hS => ?_)
  obtain ⟨hG, hN, hT, hR⟩ := hP9
  have hV := Blk.off hV hu (or_dis (iv_dis (by omega)) (iv_dis (by omega)))
  have hHs := Blk.off hHs hu (or_dis (iv_dis (by omega)) (iv_dis (by omega)))
  have hQ := Fam.off hQ hu (or_dis (iv_dis (by omega)) (iv_dis (by omega)))
  have hP := Blk.off hP hu (or_dis (iv_dis (by omega)) (iv_dis (by omega)))
  have hSb := SBt.off hSb hz hu (or_dis_s (sb_iv_dis (by omega) (by omega)) (sb_iv_dis (by omega) (by omega)))
  have hO := LO.off hO hu (fun h => by simp only [orA, iv, nv, sbA] at h; omega)
  have hOd := LD.off hOd hu (fun h => by simp only [orA, iv, nv, sbA] at h; omega)
  have hM := Blk.off hM hu (fun q q1 q2 h => by simp only [orA, iv, nv, sbA] at h; omega)
  have hC : CW E B (KS.mk z.G z.N z1.2.1 z.V z.Hs z.Q z1.2.2 z.P z.Sb z.o z.od) H := ⟨hG, hN, hT, hV, hHs, hQ, hR, hP, hSb, hO, hOd⟩
  refine lv_aload_n hx hb dL_law_2471 rfl (lv_at hl 3 rfl) ?_
  obtain ⟨y1, hc2, hf⟩ := br_some hf
  refine mg_cV (As := []) (rest := [.int z1.1]) hx hb hml hown hw hE (mX12_isConsistent l E B (B + 202) (by omega) M y1 hc2) cv_L_307 (w_recv (k := 0) (ci := 12) hE hM (by decide) rfl rfl) hM hS hAB (fun q h => Nat.le_trans (Nat.le_add_right B 202) h.1) rfl hl.1 rfl (by decide) (by decide) (Nat.le_of_ble_eq_true rfl) ⟨by show _ + _ ≤ 600006; omega, by show _ + _ ≤ 7302096; omega⟩ dL_law_2472 (fun H locs hM hz hu hS => ?_)
  have hC := CW.off hC hz hu (fun q hq q3 => by obtain ⟨q1, q2⟩ := q3; rcases hq with h | h <;> omega)
  obtain ⟨e1, hf⟩ := gd_some hf
  have e1 : z1.1 = y1.1 := of_decide_eq_true e1
  have hre := Option.some.inj hf
  subst hre
  refine lv_icmp_eq (tgt := 2939) hx hb dL_law_2475 (by decide) (fun _ => ?_) (fun c9 => absurd e1 c9)
  refine W.widen (k := cs + 40) (n := sl + 1000) (by omega) (by omega) ?_
  exact kk _ _ _ hC hM hS hl
noncomputable def fC_writeStation (z : KS) (M : Mem) (p1 : Int32) : Option (KS × Mem) := (fL_writeStation z p1).bind fun z1 => (fX12_writeStation M p1).bind fun y1 => gd (decide (y1.2 0 4 = z1.1)) (gd (decide (z1.1 = 0 → z1.2.o = Int32.toInt64 y1.1)) (some (z1.2, y1.2)))
set_option maxHeartbeats 4000000 in
set_option maxRecDepth 100000 in
theorem lawC_writeStation {p : Program} {l : Launch} {e : Env} {s : State} {m : MethodId} {below : List Frame} {meth : Method} {c : Code} {E : EP} {b L B : Nat} {xs : Nat → Int32} {Q : State → Prop} (X : LC p l e s m meth c E b L B xs) {j : Nat} (hj : 7 * j + 7 ≤ L) {z : KS} {M : Mem} {r : KS × Mem} (hf : fC_writeStation z M (xs (7 * j + 1)) = some r) {H : Heap} {locs : List Loc} {ls : Array Slot} {cs sl : Nat} (hcs : cs + 40 ≤ 600006) (hsl : sl + 1000 ≤ 7302096) (hC : CW E B z H) (hM : Blk E (B + 202) modSh 10 M H) (hS : va_S (fun q => B ≤ q) s.heap H locs) (hl : lv_has ls 9 (lawL b B j)) (kk : LK p l e s m below meth c E b B Q j (cs + 40) (sl + 1000) r) : W p l e room_1 s m #[Value.ref b] below meth c H locs cs sl Q (F0 m 2480 ls []) := by
  obtain ⟨hx, hb, hml, hown, hw, hE, htr, hX, hbl, hbB, hL3⟩ := X
  have hAB : ∀ q, (fun q => B ≤ q) q → B ≤ q := fun _ h => h
  unfold fC_writeStation at hf
  refine lv_aload_n hx hb dL_law_2480 rfl (lv_at hl 2 rfl) ?_
  refine lv_aload_n hx hb dL_law_2481 rfl (lv_at hl 1 rfl) ?_
  refine lv_iload hx hb dL_law_2482 (lv_at hl 0 rfl) ?_
  refine lv_iconst (v := 1) hx hb dL_law_2484 (by decide) ?_
  refine lv_iadd hx hb dL_law_2485 ?_
  refine sc_ld (k := 1) hx hb hX hbl hbB hS hj hL3 (by decide) rfl dL_law_2486 ?_
  refine lv_aload_n hx hb dL_law_2487 rfl (lv_at hl 4 rfl) ?_
  obtain ⟨z1, hc1, hf⟩ := br_some hf
  refine mg_cW (As := [.ref (B + 0), .int (xs (7 * j + 1)), .ref (B + 212)]) (rest := []) hx hb hml hown hw hE (mL_writeStation l E B htr B (Nat.le_refl B) z (xs (7 * j + 1)) z1 hc1) cw_L_308 hC hS hAB (cA_ge (Nat.le_refl B)) rfl hl.1 rfl (by decide) (by decide) (Nat.le_of_ble_eq_true rfl) ⟨by show _ + _ ≤ 600006; omega, by show _ + _ ≤ 7302096; omega⟩ dL_law_2488 (fun H locs hC hz hu hS => ?_)
  have hM := Blk.off hM hu (fun q q1 q2 q3 => by rcases q3 with h | h <;> omega)
  refine lv_istore (lv' := [(6, .int z1.1), (5, .int (nI (7 * j))), (0, .ref b), (1, .ref (B + 0)), (2, .ref (B + 202 + 0)), (3, .ref (B + 212)), (4, .ref (B + 213))]) hx hb dL_law_2491 hl (by decide) rfl (fun ls hl => ?_)
  refine lv_aload_n hx hb dL_law_2493 rfl (lv_at hl 4 rfl) ?_
  refine lv_aload_n hx hb dL_law_2494 rfl (lv_at hl 2 rfl) ?_
  refine lv_iload hx hb dL_law_2495 (lv_at hl 1 rfl) ?_
  refine lv_iconst (v := 1) hx hb dL_law_2497 (by decide) ?_
  refine lv_iadd hx hb dL_law_2498 ?_
  refine sc_ld (k := 1) hx hb hX hbl hbB hS hj hL3 (by decide) rfl dL_law_2499 ?_
  obtain ⟨y1, hc2, hf⟩ := br_some hf
  refine mg_cV (As := [.int (xs (7 * j + 1))]) (rest := []) hx hb hml hown hw hE (mX12_writeStation l E B (B + 202) (by omega) M (xs (7 * j + 1)) y1 hc2) cv_L_310 (w_recv (k := 0) (ci := 12) hE hM (by decide) rfl rfl) hM hS hAB (fun q h => Nat.le_trans (Nat.le_add_right B 202) h.1) rfl hl.1 rfl (by decide) (by decide) (Nat.le_of_ble_eq_true rfl) ⟨by show _ + _ ≤ 600006; omega, by show _ + _ ≤ 7302096; omega⟩ dL_law_2500 (fun H locs hM hz hu hS => ?_)
  have hC := CW.off hC hz hu (fun q hq q3 => by obtain ⟨q1, q2⟩ := q3; rcases hq with h | h <;> omega)
  refine lv_istore (lv' := [(7, .int y1.1), (6, .int z1.1), (5, .int (nI (7 * j))), (0, .ref b), (1, .ref (B + 0)), (2, .ref (B + 202 + 0)), (3, .ref (B + 212)), (4, .ref (B + 213))]) hx hb dL_law_2503 hl (by decide) rfl (fun ls hl => ?_)
  refine lv_aload_n hx hb dL_law_2505 rfl (lv_at hl 5 rfl) ?_
  refine mg_cV (As := []) (rest := []) hx hb hml hown hw hE (mX12_thrown l E B (B + 202) (by omega) y1.2 (y1.2 0 4) rfl) cv_L_172 (w_recv (k := 0) (ci := 12) hE hM (by decide) rfl rfl) hM hS hAB (fun _ h => h.elim) rfl hl.1 rfl (by decide) (by decide) (Nat.le_of_ble_eq_true rfl) ⟨by show _ + _ ≤ 600006; omega, by show _ + _ ≤ 7302096; omega⟩ dL_law_2506 (fun H locs hM hz hu hS => ?_)
  have hC := CW.off hC hz hu (fun q hq q3 => q3)
  refine lv_iload hx hb dL_law_2509 (lv_at hl 1 rfl) ?_
  obtain ⟨e1, hf⟩ := gd_some hf
  have e1 : y1.2 0 4 = z1.1 := of_decide_eq_true e1
  obtain ⟨e2, hf⟩ := gd_some hf
  have e2 : z1.1 = 0 → z1.2.o = Int32.toInt64 y1.1 := of_decide_eq_true e2
  have hre := Option.some.inj hf
  subst hre
  refine lv_icmp_eq (tgt := 2516) hx hb dL_law_2511 (by decide) (fun _ => ?_) (fun c9 => absurd e1 c9)
  refine lv_iload hx hb dL_law_2516 (lv_at hl 1 rfl) ?_
  have fin : ∀ k9 n9 : Nat, k9 ≤ cs + 40 → n9 ≤ sl + 1000 → W p l e room_1 s m #[Value.ref b] below meth c H locs k9 n9 Q (F0 m 2533 ls []) := by
    intro k9 n9 g9 g8
    refine lv_goto (tgt := 2939) hx hb dL_law_2533 (by decide) ?_
    refine W.widen (k := cs + 40) (n := sl + 1000) g9 g8 ?_
    exact kk _ _ _ hC hM hS (lv_sub hl [2, 3, 4, 5, 6, 7] rfl)
  refine lv_if_ne (tgt := 2533) hx hb dL_law_2518 (by decide) (fun _ => fin _ _ (by omega) (by omega)) (fun c8 => ?_)
  have e2 := e2 c8
  obtain ⟨hG, hN, hT, hV, hHs, hQ, hR, hP, hSb, hO, hOd⟩ := hC
  refine lv_aload_n hx hb dL_law_2521 rfl (lv_at hl 6 rfl) ?_
  refine lv_iconst (v := 0) hx hb dL_law_2522 (by decide) ?_
  rw [e2] at hO
  refine w_lald hx hb hE hO dL_law_2523 ?_
  refine lv_iload hx hb dL_law_2524 (lv_at hl 0 rfl) ?_
  refine lv_i2l hx hb dL_law_2526 rfl ?_
  refine lc_eq hx hb dL_law_2527 ?_
  refine lv_if_eq (tgt := 2533) hx hb dL_law_2528 (by decide) (fun _ => fin _ _ (by omega) (by omega)) (fun c7 => absurd rfl c7)
noncomputable def fC_writeChannel (z : KS) (M : Mem) (p1 : Int32) : Option (KS × Mem) := (fL_writeChannel z p1).bind fun z1 => (fX12_writeChannel M p1).bind fun y1 => gd (decide (y1.2 0 4 = z1.1)) (gd (decide (z1.1 = 0 → z1.2.o = Int32.toInt64 y1.1)) (some (z1.2, y1.2)))
set_option maxHeartbeats 4000000 in
set_option maxRecDepth 100000 in
theorem lawC_writeChannel {p : Program} {l : Launch} {e : Env} {s : State} {m : MethodId} {below : List Frame} {meth : Method} {c : Code} {E : EP} {b L B : Nat} {xs : Nat → Int32} {Q : State → Prop} (X : LC p l e s m meth c E b L B xs) {j : Nat} (hj : 7 * j + 7 ≤ L) {z : KS} {M : Mem} {r : KS × Mem} (hf : fC_writeChannel z M (xs (7 * j + 1)) = some r) {H : Heap} {locs : List Loc} {ls : Array Slot} {cs sl : Nat} (hcs : cs + 40 ≤ 600006) (hsl : sl + 1000 ≤ 7302096) (hC : CW E B z H) (hM : Blk E (B + 202) modSh 10 M H) (hS : va_S (fun q => B ≤ q) s.heap H locs) (hl : lv_has ls 9 (lawL b B j)) (kk : LK p l e s m below meth c E b B Q j (cs + 40) (sl + 1000) r) : W p l e room_1 s m #[Value.ref b] below meth c H locs cs sl Q (F0 m 2536 ls []) := by
  obtain ⟨hx, hb, hml, hown, hw, hE, htr, hX, hbl, hbB, hL3⟩ := X
  have hAB : ∀ q, (fun q => B ≤ q) q → B ≤ q := fun _ h => h
  unfold fC_writeChannel at hf
  refine lv_aload_n hx hb dL_law_2536 rfl (lv_at hl 2 rfl) ?_
  refine lv_aload_n hx hb dL_law_2537 rfl (lv_at hl 1 rfl) ?_
  refine lv_iload hx hb dL_law_2538 (lv_at hl 0 rfl) ?_
  refine lv_iconst (v := 1) hx hb dL_law_2540 (by decide) ?_
  refine lv_iadd hx hb dL_law_2541 ?_
  refine sc_ld (k := 1) hx hb hX hbl hbB hS hj hL3 (by decide) rfl dL_law_2542 ?_
  refine lv_aload_n hx hb dL_law_2543 rfl (lv_at hl 4 rfl) ?_
  obtain ⟨z1, hc1, hf⟩ := br_some hf
  refine mg_cW (As := [.ref (B + 0), .int (xs (7 * j + 1)), .ref (B + 212)]) (rest := []) hx hb hml hown hw hE (mL_writeChannel l E B htr B (Nat.le_refl B) z (xs (7 * j + 1)) z1 hc1) cw_L_311 hC hS hAB (cA_ge (Nat.le_refl B)) rfl hl.1 rfl (by decide) (by decide) (Nat.le_of_ble_eq_true rfl) ⟨by show _ + _ ≤ 600006; omega, by show _ + _ ≤ 7302096; omega⟩ dL_law_2544 (fun H locs hC hz hu hS => ?_)
  have hM := Blk.off hM hu (fun q q1 q2 q3 => by rcases q3 with h | h <;> omega)
  refine lv_istore (lv' := [(6, .int z1.1), (5, .int (nI (7 * j))), (0, .ref b), (1, .ref (B + 0)), (2, .ref (B + 202 + 0)), (3, .ref (B + 212)), (4, .ref (B + 213))]) hx hb dL_law_2547 hl (by decide) rfl (fun ls hl => ?_)
  refine lv_aload_n hx hb dL_law_2549 rfl (lv_at hl 4 rfl) ?_
  refine lv_aload_n hx hb dL_law_2550 rfl (lv_at hl 2 rfl) ?_
  refine lv_iload hx hb dL_law_2551 (lv_at hl 1 rfl) ?_
  refine lv_iconst (v := 1) hx hb dL_law_2553 (by decide) ?_
  refine lv_iadd hx hb dL_law_2554 ?_
  refine sc_ld (k := 1) hx hb hX hbl hbB hS hj hL3 (by decide) rfl dL_law_2555 ?_
  obtain ⟨y1, hc2, hf⟩ := br_some hf
  refine mg_cV (As := [.int (xs (7 * j + 1))]) (rest := []) hx hb hml hown hw hE (mX12_writeChannel l E B (B + 202) (by omega) M (xs (7 * j + 1)) y1 hc2) cv_L_313 (w_recv (k := 0) (ci := 12) hE hM (by decide) rfl rfl) hM hS hAB (fun q h => Nat.le_trans (Nat.le_add_right B 202) h.1) rfl hl.1 rfl (by decide) (by decide) (Nat.le_of_ble_eq_true rfl) ⟨by show _ + _ ≤ 600006; omega, by show _ + _ ≤ 7302096; omega⟩ dL_law_2556 (fun H locs hM hz hu hS => ?_)
  have hC := CW.off hC hz hu (fun q hq q3 => by obtain ⟨q1, q2⟩ := q3; rcases hq with h | h <;> omega)
  refine lv_istore (lv' := [(7, .int y1.1), (6, .int z1.1), (5, .int (nI (7 * j))), (0, .ref b), (1, .ref (B + 0)), (2, .ref (B + 202 + 0)), (3, .ref (B + 212)), (4, .ref (B + 213))]) hx hb dL_law_2559 hl (by decide) rfl (fun ls hl => ?_)
  refine lv_aload_n hx hb dL_law_2561 rfl (lv_at hl 5 rfl) ?_
  refine mg_cV (As := []) (rest := []) hx hb hml hown hw hE (mX12_thrown l E B (B + 202) (by omega) y1.2 (y1.2 0 4) rfl) cv_L_172 (w_recv (k := 0) (ci := 12) hE hM (by decide) rfl rfl) hM hS hAB (fun _ h => h.elim) rfl hl.1 rfl (by decide) (by decide) (Nat.le_of_ble_eq_true rfl) ⟨by show _ + _ ≤ 600006; omega, by show _ + _ ≤ 7302096; omega⟩ dL_law_2562 (fun H locs hM hz hu hS => ?_)
  have hC := CW.off hC hz hu (fun q hq q3 => q3)
  refine lv_iload hx hb dL_law_2565 (lv_at hl 1 rfl) ?_
  obtain ⟨e1, hf⟩ := gd_some hf
  have e1 : y1.2 0 4 = z1.1 := of_decide_eq_true e1
  obtain ⟨e2, hf⟩ := gd_some hf
  have e2 : z1.1 = 0 → z1.2.o = Int32.toInt64 y1.1 := of_decide_eq_true e2
  have hre := Option.some.inj hf
  subst hre
  refine lv_icmp_eq (tgt := 2572) hx hb dL_law_2567 (by decide) (fun _ => ?_) (fun c9 => absurd e1 c9)
  refine lv_iload hx hb dL_law_2572 (lv_at hl 1 rfl) ?_
  have fin : ∀ k9 n9 : Nat, k9 ≤ cs + 40 → n9 ≤ sl + 1000 → W p l e room_1 s m #[Value.ref b] below meth c H locs k9 n9 Q (F0 m 2589 ls []) := by
    intro k9 n9 g9 g8
    refine lv_goto (tgt := 2939) hx hb dL_law_2589 (by decide) ?_
    refine W.widen (k := cs + 40) (n := sl + 1000) g9 g8 ?_
    exact kk _ _ _ hC hM hS (lv_sub hl [2, 3, 4, 5, 6, 7] rfl)
  refine lv_if_ne (tgt := 2589) hx hb dL_law_2574 (by decide) (fun _ => fin _ _ (by omega) (by omega)) (fun c8 => ?_)
  have e2 := e2 c8
  obtain ⟨hG, hN, hT, hV, hHs, hQ, hR, hP, hSb, hO, hOd⟩ := hC
  refine lv_aload_n hx hb dL_law_2577 rfl (lv_at hl 6 rfl) ?_
  refine lv_iconst (v := 0) hx hb dL_law_2578 (by decide) ?_
  rw [e2] at hO
  refine w_lald hx hb hE hO dL_law_2579 ?_
  refine lv_iload hx hb dL_law_2580 (lv_at hl 0 rfl) ?_
  refine lv_i2l hx hb dL_law_2582 rfl ?_
  refine lc_eq hx hb dL_law_2583 ?_
  refine lv_if_eq (tgt := 2589) hx hb dL_law_2584 (by decide) (fun _ => fin _ _ (by omega) (by omega)) (fun c7 => absurd rfl c7)
noncomputable def fC_charAt (z : KS) (M : Mem) (p1 : Int32) : Option (KS × Mem) := (fL_charAt z p1).bind fun z1 => (fX12_charAt M p1).bind fun y1 => gd (decide (y1.2 0 4 = z1.1)) (gd (decide (z1.1 = 0 → z1.2.o = Int32.toInt64 y1.1)) (some (z1.2, y1.2)))
set_option maxHeartbeats 4000000 in
set_option maxRecDepth 100000 in
theorem lawC_charAt {p : Program} {l : Launch} {e : Env} {s : State} {m : MethodId} {below : List Frame} {meth : Method} {c : Code} {E : EP} {b L B : Nat} {xs : Nat → Int32} {Q : State → Prop} (X : LC p l e s m meth c E b L B xs) {j : Nat} (hj : 7 * j + 7 ≤ L) {z : KS} {M : Mem} {r : KS × Mem} (hf : fC_charAt z M (xs (7 * j + 1)) = some r) {H : Heap} {locs : List Loc} {ls : Array Slot} {cs sl : Nat} (hcs : cs + 40 ≤ 600006) (hsl : sl + 1000 ≤ 7302096) (hC : CW E B z H) (hM : Blk E (B + 202) modSh 10 M H) (hS : va_S (fun q => B ≤ q) s.heap H locs) (hl : lv_has ls 9 (lawL b B j)) (kk : LK p l e s m below meth c E b B Q j (cs + 40) (sl + 1000) r) : W p l e room_1 s m #[Value.ref b] below meth c H locs cs sl Q (F0 m 2592 ls []) := by
  obtain ⟨hx, hb, hml, hown, hw, hE, htr, hX, hbl, hbB, hL3⟩ := X
  have hAB : ∀ q, (fun q => B ≤ q) q → B ≤ q := fun _ h => h
  unfold fC_charAt at hf
  refine lv_aload_n hx hb dL_law_2592 rfl (lv_at hl 2 rfl) ?_
  refine lv_aload_n hx hb dL_law_2593 rfl (lv_at hl 1 rfl) ?_
  refine lv_iload hx hb dL_law_2594 (lv_at hl 0 rfl) ?_
  refine lv_iconst (v := 1) hx hb dL_law_2596 (by decide) ?_
  refine lv_iadd hx hb dL_law_2597 ?_
  refine sc_ld (k := 1) hx hb hX hbl hbB hS hj hL3 (by decide) rfl dL_law_2598 ?_
  refine lv_aload_n hx hb dL_law_2599 rfl (lv_at hl 4 rfl) ?_
  obtain ⟨z1, hc1, hf⟩ := br_some hf
  refine mg_cW (As := [.ref (B + 0), .int (xs (7 * j + 1)), .ref (B + 212)]) (rest := []) hx hb hml hown hw hE (mL_charAt l E B htr B (Nat.le_refl B) z (xs (7 * j + 1)) z1 hc1) cw_L_314 hC hS hAB (cA_ge (Nat.le_refl B)) rfl hl.1 rfl (by decide) (by decide) (Nat.le_of_ble_eq_true rfl) ⟨by show _ + _ ≤ 600006; omega, by show _ + _ ≤ 7302096; omega⟩ dL_law_2600 (fun H locs hC hz hu hS => ?_)
  have hM := Blk.off hM hu (fun q q1 q2 q3 => by rcases q3 with h | h <;> omega)
  refine lv_istore (lv' := [(6, .int z1.1), (5, .int (nI (7 * j))), (0, .ref b), (1, .ref (B + 0)), (2, .ref (B + 202 + 0)), (3, .ref (B + 212)), (4, .ref (B + 213))]) hx hb dL_law_2603 hl (by decide) rfl (fun ls hl => ?_)
  refine lv_aload_n hx hb dL_law_2605 rfl (lv_at hl 4 rfl) ?_
  refine lv_aload_n hx hb dL_law_2606 rfl (lv_at hl 2 rfl) ?_
  refine lv_iload hx hb dL_law_2607 (lv_at hl 1 rfl) ?_
  refine lv_iconst (v := 1) hx hb dL_law_2609 (by decide) ?_
  refine lv_iadd hx hb dL_law_2610 ?_
  refine sc_ld (k := 1) hx hb hX hbl hbB hS hj hL3 (by decide) rfl dL_law_2611 ?_
  obtain ⟨y1, hc2, hf⟩ := br_some hf
  refine mg_cV (As := [.int (xs (7 * j + 1))]) (rest := []) hx hb hml hown hw hE (mX12_charAt l E B (B + 202) (by omega) M (xs (7 * j + 1)) y1 hc2) cv_L_316 (w_recv (k := 0) (ci := 12) hE hM (by decide) rfl rfl) hM hS hAB (fun q h => Nat.le_trans (Nat.le_add_right B 202) h.1) rfl hl.1 rfl (by decide) (by decide) (Nat.le_of_ble_eq_true rfl) ⟨by show _ + _ ≤ 600006; omega, by show _ + _ ≤ 7302096; omega⟩ dL_law_2612 (fun H locs hM hz hu hS => ?_)
  have hC := CW.off hC hz hu (fun q hq q3 => by obtain ⟨q1, q2⟩ := q3; rcases hq with h | h <;> omega)
  refine lv_istore (lv' := [(7, .int y1.1), (6, .int z1.1), (5, .int (nI (7 * j))), (0, .ref b), (1, .ref (B + 0)), (2, .ref (B + 202 + 0)), (3, .ref (B + 212)), (4, .ref (B + 213))]) hx hb dL_law_2615 hl (by decide) rfl (fun ls hl => ?_)
  refine lv_aload_n hx hb dL_law_2617 rfl (lv_at hl 5 rfl) ?_
  refine mg_cV (As := []) (rest := []) hx hb hml hown hw hE (mX12_thrown l E B (B + 202) (by omega) y1.2 (y1.2 0 4) rfl) cv_L_172 (w_recv (k := 0) (ci := 12) hE hM (by decide) rfl rfl) hM hS hAB (fun _ h => h.elim) rfl hl.1 rfl (by decide) (by decide) (Nat.le_of_ble_eq_true rfl) ⟨by show _ + _ ≤ 600006; omega, by show _ + _ ≤ 7302096; omega⟩ dL_law_2618 (fun H locs hM hz hu hS => ?_)
  have hC := CW.off hC hz hu (fun q hq q3 => q3)
  refine lv_iload hx hb dL_law_2621 (lv_at hl 1 rfl) ?_
  obtain ⟨e1, hf⟩ := gd_some hf
  have e1 : y1.2 0 4 = z1.1 := of_decide_eq_true e1
  obtain ⟨e2, hf⟩ := gd_some hf
  have e2 : z1.1 = 0 → z1.2.o = Int32.toInt64 y1.1 := of_decide_eq_true e2
  have hre := Option.some.inj hf
  subst hre
  refine lv_icmp_eq (tgt := 2628) hx hb dL_law_2623 (by decide) (fun _ => ?_) (fun c9 => absurd e1 c9)
  refine lv_iload hx hb dL_law_2628 (lv_at hl 1 rfl) ?_
  have fin : ∀ k9 n9 : Nat, k9 ≤ cs + 40 → n9 ≤ sl + 1000 → W p l e room_1 s m #[Value.ref b] below meth c H locs k9 n9 Q (F0 m 2645 ls []) := by
    intro k9 n9 g9 g8
    refine lv_goto (tgt := 2939) hx hb dL_law_2645 (by decide) ?_
    refine W.widen (k := cs + 40) (n := sl + 1000) g9 g8 ?_
    exact kk _ _ _ hC hM hS (lv_sub hl [2, 3, 4, 5, 6, 7] rfl)
  refine lv_if_ne (tgt := 2645) hx hb dL_law_2630 (by decide) (fun _ => fin _ _ (by omega) (by omega)) (fun c8 => ?_)
  have e2 := e2 c8
  obtain ⟨hG, hN, hT, hV, hHs, hQ, hR, hP, hSb, hO, hOd⟩ := hC
  refine lv_aload_n hx hb dL_law_2633 rfl (lv_at hl 6 rfl) ?_
  refine lv_iconst (v := 0) hx hb dL_law_2634 (by decide) ?_
  rw [e2] at hO
  refine w_lald hx hb hE hO dL_law_2635 ?_
  refine lv_iload hx hb dL_law_2636 (lv_at hl 0 rfl) ?_
  refine lv_i2l hx hb dL_law_2638 rfl ?_
  refine lc_eq hx hb dL_law_2639 ?_
  refine lv_if_eq (tgt := 2645) hx hb dL_law_2640 (by decide) (fun _ => fin _ _ (by omega) (by omega)) (fun c7 => absurd rfl c7)
noncomputable def fC_type (z : KS) (M : Mem) (p1 : Int32) : Option (KS × Mem) := (fL_type z (ch p1)).bind fun z1 => (fX12_type M (ch p1)).bind fun y1 => gd (decide (y1.2 0 4 = z1.1)) (gd (decide (z1.1 = 0 → z1.2.o = Int32.toInt64 y1.1)) (some (z1.2, y1.2)))
set_option maxHeartbeats 4000000 in
set_option maxRecDepth 100000 in
theorem lawC_type {p : Program} {l : Launch} {e : Env} {s : State} {m : MethodId} {below : List Frame} {meth : Method} {c : Code} {E : EP} {b L B : Nat} {xs : Nat → Int32} {Q : State → Prop} (X : LC p l e s m meth c E b L B xs) {j : Nat} (hj : 7 * j + 7 ≤ L) {z : KS} {M : Mem} {r : KS × Mem} (hf : fC_type z M (xs (7 * j + 1)) = some r) {H : Heap} {locs : List Loc} {ls : Array Slot} {cs sl : Nat} (hcs : cs + 40 ≤ 600006) (hsl : sl + 1000 ≤ 7302096) (hC : CW E B z H) (hM : Blk E (B + 202) modSh 10 M H) (hS : va_S (fun q => B ≤ q) s.heap H locs) (hl : lv_has ls 9 (lawL b B j)) (kk : LK p l e s m below meth c E b B Q j (cs + 40) (sl + 1000) r) : W p l e room_1 s m #[Value.ref b] below meth c H locs cs sl Q (F0 m 2648 ls []) := by
  obtain ⟨hx, hb, hml, hown, hw, hE, htr, hX, hbl, hbB, hL3⟩ := X
  have hAB : ∀ q, (fun q => B ≤ q) q → B ≤ q := fun _ h => h
  unfold fC_type at hf
  refine lv_aload_n hx hb dL_law_2648 rfl (lv_at hl 2 rfl) ?_
  refine lv_aload_n hx hb dL_law_2649 rfl (lv_at hl 1 rfl) ?_
  refine lv_iload hx hb dL_law_2650 (lv_at hl 0 rfl) ?_
  refine lv_iconst (v := 1) hx hb dL_law_2652 (by decide) ?_
  refine lv_iadd hx hb dL_law_2653 ?_
  refine sc_ld (k := 1) hx hb hX hbl hbB hS hj hL3 (by decide) rfl dL_law_2654 ?_
  refine lv_i2c (v := ch (xs (7 * j + 1))) hx hb dL_law_2655 rfl ?_
  refine lv_aload_n hx hb dL_law_2656 rfl (lv_at hl 4 rfl) ?_
  obtain ⟨z1, hc1, hf⟩ := br_some hf
  refine mg_cW (As := [.ref (B + 0), .int (ch (xs (7 * j + 1))), .ref (B + 212)]) (rest := []) hx hb hml hown hw hE (mL_type l E B htr B (Nat.le_refl B) z (ch (xs (7 * j + 1))) z1 hc1) cw_L_317 hC hS hAB (cA_ge (Nat.le_refl B)) rfl hl.1 rfl (by decide) (by decide) (Nat.le_of_ble_eq_true rfl) ⟨by show _ + _ ≤ 600006; omega, by show _ + _ ≤ 7302096; omega⟩ dL_law_2657 (fun H locs hC hz hu hS => ?_)
  have hM := Blk.off hM hu (fun q q1 q2 q3 => by rcases q3 with h | h <;> omega)
  refine lv_istore (lv' := [(6, .int z1.1), (5, .int (nI (7 * j))), (0, .ref b), (1, .ref (B + 0)), (2, .ref (B + 202 + 0)), (3, .ref (B + 212)), (4, .ref (B + 213))]) hx hb dL_law_2660 hl (by decide) rfl (fun ls hl => ?_)
  refine lv_aload_n hx hb dL_law_2662 rfl (lv_at hl 4 rfl) ?_
  refine lv_aload_n hx hb dL_law_2663 rfl (lv_at hl 2 rfl) ?_
  refine lv_iload hx hb dL_law_2664 (lv_at hl 1 rfl) ?_
  refine lv_iconst (v := 1) hx hb dL_law_2666 (by decide) ?_
  refine lv_iadd hx hb dL_law_2667 ?_
  refine sc_ld (k := 1) hx hb hX hbl hbB hS hj hL3 (by decide) rfl dL_law_2668 ?_
  refine lv_i2c (v := ch (xs (7 * j + 1))) hx hb dL_law_2669 rfl ?_
  obtain ⟨y1, hc2, hf⟩ := br_some hf
  refine mg_cV (As := [.int (ch (xs (7 * j + 1)))]) (rest := []) hx hb hml hown hw hE (mX12_type l E B (B + 202) (by omega) M (ch (xs (7 * j + 1))) y1 hc2) cv_L_320 (w_recv (k := 0) (ci := 12) hE hM (by decide) rfl rfl) hM hS hAB (fun q h => Nat.le_trans (Nat.le_add_right B 202) h.1) rfl hl.1 rfl (by decide) (by decide) (Nat.le_of_ble_eq_true rfl) ⟨by show _ + _ ≤ 600006; omega, by show _ + _ ≤ 7302096; omega⟩ dL_law_2670 (fun H locs hM hz hu hS => ?_)
  have hC := CW.off hC hz hu (fun q hq q3 => by obtain ⟨q1, q2⟩ := q3; rcases hq with h | h <;> omega)
  refine lv_istore (lv' := [(7, .int y1.1), (6, .int z1.1), (5, .int (nI (7 * j))), (0, .ref b), (1, .ref (B + 0)), (2, .ref (B + 202 + 0)), (3, .ref (B + 212)), (4, .ref (B + 213))]) hx hb dL_law_2673 hl (by decide) rfl (fun ls hl => ?_)
  refine lv_aload_n hx hb dL_law_2675 rfl (lv_at hl 5 rfl) ?_
  refine mg_cV (As := []) (rest := []) hx hb hml hown hw hE (mX12_thrown l E B (B + 202) (by omega) y1.2 (y1.2 0 4) rfl) cv_L_172 (w_recv (k := 0) (ci := 12) hE hM (by decide) rfl rfl) hM hS hAB (fun _ h => h.elim) rfl hl.1 rfl (by decide) (by decide) (Nat.le_of_ble_eq_true rfl) ⟨by show _ + _ ≤ 600006; omega, by show _ + _ ≤ 7302096; omega⟩ dL_law_2676 (fun H locs hM hz hu hS => ?_)
  have hC := CW.off hC hz hu (fun q hq q3 => q3)
  refine lv_iload hx hb dL_law_2679 (lv_at hl 1 rfl) ?_
  obtain ⟨e1, hf⟩ := gd_some hf
  have e1 : y1.2 0 4 = z1.1 := of_decide_eq_true e1
  obtain ⟨e2, hf⟩ := gd_some hf
  have e2 : z1.1 = 0 → z1.2.o = Int32.toInt64 y1.1 := of_decide_eq_true e2
  have hre := Option.some.inj hf
  subst hre
  refine lv_icmp_eq (tgt := 2686) hx hb dL_law_2681 (by decide) (fun _ => ?_) (fun c9 => absurd e1 c9)
  refine lv_iload hx hb dL_law_2686 (lv_at hl 1 rfl) ?_
  have fin : ∀ k9 n9 : Nat, k9 ≤ cs + 40 → n9 ≤ sl + 1000 → W p l e room_1 s m #[Value.ref b] below meth c H locs k9 n9 Q (F0 m 2703 ls []) := by
    intro k9 n9 g9 g8
    refine lv_goto (tgt := 2939) hx hb dL_law_2703 (by decide) ?_
    refine W.widen (k := cs + 40) (n := sl + 1000) g9 g8 ?_
    exact kk _ _ _ hC hM hS (lv_sub hl [2, 3, 4, 5, 6, 7] rfl)
  refine lv_if_ne (tgt := 2703) hx hb dL_law_2688 (by decide) (fun _ => fin _ _ (by omega) (by omega)) (fun c8 => ?_)
  have e2 := e2 c8
  obtain ⟨hG, hN, hT, hV, hHs, hQ, hR, hP, hSb, hO, hOd⟩ := hC
  refine lv_aload_n hx hb dL_law_2691 rfl (lv_at hl 6 rfl) ?_
  refine lv_iconst (v := 0) hx hb dL_law_2692 (by decide) ?_
  rw [e2] at hO
  refine w_lald hx hb hE hO dL_law_2693 ?_
  refine lv_iload hx hb dL_law_2694 (lv_at hl 0 rfl) ?_
  refine lv_i2l hx hb dL_law_2696 rfl ?_
  refine lc_eq hx hb dL_law_2697 ?_
  refine lv_if_eq (tgt := 2703) hx hb dL_law_2698 (by decide) (fun _ => fin _ _ (by omega) (by omega)) (fun c7 => absurd rfl c7)
noncomputable def fC_run (z : KS) (M : Mem) : Option (KS × Mem) := (fL_run z).bind fun z1 => (fX12_run M).bind fun y1 => gd (decide (y1.2 0 4 = z1.1)) (gd (decide (z1.1 = 0 → z1.2.o = Int32.toInt64 y1.1)) (some (z1.2, y1.2)))
set_option maxHeartbeats 4000000 in
set_option maxRecDepth 100000 in
theorem lawC_run {p : Program} {l : Launch} {e : Env} {s : State} {m : MethodId} {below : List Frame} {meth : Method} {c : Code} {E : EP} {b L B : Nat} {xs : Nat → Int32} {Q : State → Prop} (X : LC p l e s m meth c E b L B xs) {j : Nat} (hj : 7 * j + 7 ≤ L) {z : KS} {M : Mem} {r : KS × Mem} (hf : fC_run z M = some r) {H : Heap} {locs : List Loc} {ls : Array Slot} {cs sl : Nat} (hcs : cs + 40 ≤ 600006) (hsl : sl + 1000 ≤ 7302096) (hC : CW E B z H) (hM : Blk E (B + 202) modSh 10 M H) (hS : va_S (fun q => B ≤ q) s.heap H locs) (hl : lv_has ls 9 (lawL b B j)) (kk : LK p l e s m below meth c E b B Q j (cs + 40) (sl + 1000) r) : W p l e room_1 s m #[Value.ref b] below meth c H locs cs sl Q (F0 m 2706 ls []) := by
  obtain ⟨hx, hb, hml, hown, hw, hE, htr, hX, hbl, hbB, hL3⟩ := X
  have hAB : ∀ q, (fun q => B ≤ q) q → B ≤ q := fun _ h => h
  unfold fC_run at hf
  refine lv_aload_n hx hb dL_law_2706 rfl (lv_at hl 2 rfl) ?_
  refine lv_aload_n hx hb dL_law_2707 rfl (lv_at hl 4 rfl) ?_
  obtain ⟨z1, hc1, hf⟩ := br_some hf
  refine mg_cW (As := [.ref (B + 0), .ref (B + 212)]) (rest := []) hx hb hml hown hw hE (mL_run l E B htr B (Nat.le_refl B) z z1 hc1) cw_L_321 hC hS hAB (cA_ge (Nat.le_refl B)) rfl hl.1 rfl (by decide) (by decide) (Nat.le_of_ble_eq_true rfl) ⟨by show _ + _ ≤ 600006; omega, by show _ + _ ≤ 7302096; omega⟩ dL_law_2708 (fun H locs hC hz hu hS => ?_)
  have hM := Blk.off hM hu (fun q q1 q2 q3 => by rcases q3 with h | h <;> omega)
  refine lv_istore (lv' := [(6, .int z1.1), (5, .int (nI (7 * j))), (0, .ref b), (1, .ref (B + 0)), (2, .ref (B + 202 + 0)), (3, .ref (B + 212)), (4, .ref (B + 213))]) hx hb dL_law_2711 hl (by decide) rfl (fun ls hl => ?_)
  refine lv_aload_n hx hb dL_law_2713 rfl (lv_at hl 4 rfl) ?_
  obtain ⟨y1, hc2, hf⟩ := br_some hf
  refine mg_cV (As := []) (rest := []) hx hb hml hown hw hE (mX12_run l E B (B + 202) (by omega) M y1 hc2) cv_L_324 (w_recv (k := 0) (ci := 12) hE hM (by decide) rfl rfl) hM hS hAB (fun q h => Nat.le_trans (Nat.le_add_right B 202) h.1) rfl hl.1 rfl (by decide) (by decide) (Nat.le_of_ble_eq_true rfl) ⟨by show _ + _ ≤ 600006; omega, by show _ + _ ≤ 7302096; omega⟩ dL_law_2714 (fun H locs hM hz hu hS => ?_)
  have hC := CW.off hC hz hu (fun q hq q3 => by obtain ⟨q1, q2⟩ := q3; rcases hq with h | h <;> omega)
  refine lv_istore (lv' := [(7, .int y1.1), (6, .int z1.1), (5, .int (nI (7 * j))), (0, .ref b), (1, .ref (B + 0)), (2, .ref (B + 202 + 0)), (3, .ref (B + 212)), (4, .ref (B + 213))]) hx hb dL_law_2717 hl (by decide) rfl (fun ls hl => ?_)
  refine lv_aload_n hx hb dL_law_2719 rfl (lv_at hl 5 rfl) ?_
  refine mg_cV (As := []) (rest := []) hx hb hml hown hw hE (mX12_thrown l E B (B + 202) (by omega) y1.2 (y1.2 0 4) rfl) cv_L_172 (w_recv (k := 0) (ci := 12) hE hM (by decide) rfl rfl) hM hS hAB (fun _ h => h.elim) rfl hl.1 rfl (by decide) (by decide) (Nat.le_of_ble_eq_true rfl) ⟨by show _ + _ ≤ 600006; omega, by show _ + _ ≤ 7302096; omega⟩ dL_law_2720 (fun H locs hM hz hu hS => ?_)
  have hC := CW.off hC hz hu (fun q hq q3 => q3)
  refine lv_iload hx hb dL_law_2723 (lv_at hl 1 rfl) ?_
  obtain ⟨e1, hf⟩ := gd_some hf
  have e1 : y1.2 0 4 = z1.1 := of_decide_eq_true e1
  obtain ⟨e2, hf⟩ := gd_some hf
  have e2 : z1.1 = 0 → z1.2.o = Int32.toInt64 y1.1 := of_decide_eq_true e2
  have hre := Option.some.inj hf
  subst hre
  refine lv_icmp_eq (tgt := 2730) hx hb dL_law_2725 (by decide) (fun _ => ?_) (fun c9 => absurd e1 c9)
  refine lv_iload hx hb dL_law_2730 (lv_at hl 1 rfl) ?_
  have fin : ∀ k9 n9 : Nat, k9 ≤ cs + 40 → n9 ≤ sl + 1000 → W p l e room_1 s m #[Value.ref b] below meth c H locs k9 n9 Q (F0 m 2747 ls []) := by
    intro k9 n9 g9 g8
    refine lv_goto (tgt := 2939) hx hb dL_law_2747 (by decide) ?_
    refine W.widen (k := cs + 40) (n := sl + 1000) g9 g8 ?_
    exact kk _ _ _ hC hM hS (lv_sub hl [2, 3, 4, 5, 6, 7] rfl)
  refine lv_if_ne (tgt := 2747) hx hb dL_law_2732 (by decide) (fun _ => fin _ _ (by omega) (by omega)) (fun c8 => ?_)
  have e2 := e2 c8
  obtain ⟨hG, hN, hT, hV, hHs, hQ, hR, hP, hSb, hO, hOd⟩ := hC
  refine lv_aload_n hx hb dL_law_2735 rfl (lv_at hl 6 rfl) ?_
  refine lv_iconst (v := 0) hx hb dL_law_2736 (by decide) ?_
  rw [e2] at hO
  refine w_lald hx hb hE hO dL_law_2737 ?_
  refine lv_iload hx hb dL_law_2738 (lv_at hl 0 rfl) ?_
  refine lv_i2l hx hb dL_law_2740 rfl ?_
  refine lc_eq hx hb dL_law_2741 ?_
  refine lv_if_eq (tgt := 2747) hx hb dL_law_2742 (by decide) (fun _ => fin _ _ (by omega) (by omega)) (fun c7 => absurd rfl c7)
noncomputable def fC_errorPosition (z : KS) (M : Mem) : Option (KS × Mem) := (fL_errorPosition z).bind fun z1 => (fX12_errorPosition M).bind fun y1 => gd (decide (y1.2 0 4 = z1.1)) (gd (decide (z1.1 = 0 → z1.2.o = Int32.toInt64 y1.1)) (some (z1.2, y1.2)))
set_option maxHeartbeats 4000000 in
set_option maxRecDepth 100000 in
theorem lawC_errorPosition {p : Program} {l : Launch} {e : Env} {s : State} {m : MethodId} {below : List Frame} {meth : Method} {c : Code} {E : EP} {b L B : Nat} {xs : Nat → Int32} {Q : State → Prop} (X : LC p l e s m meth c E b L B xs) {j : Nat} (hj : 7 * j + 7 ≤ L) {z : KS} {M : Mem} {r : KS × Mem} (hf : fC_errorPosition z M = some r) {H : Heap} {locs : List Loc} {ls : Array Slot} {cs sl : Nat} (hcs : cs + 40 ≤ 600006) (hsl : sl + 1000 ≤ 7302096) (hC : CW E B z H) (hM : Blk E (B + 202) modSh 10 M H) (hS : va_S (fun q => B ≤ q) s.heap H locs) (hl : lv_has ls 9 (lawL b B j)) (kk : LK p l e s m below meth c E b B Q j (cs + 40) (sl + 1000) r) : W p l e room_1 s m #[Value.ref b] below meth c H locs cs sl Q (F0 m 2750 ls []) := by
  obtain ⟨hx, hb, hml, hown, hw, hE, htr, hX, hbl, hbB, hL3⟩ := X
  have hAB : ∀ q, (fun q => B ≤ q) q → B ≤ q := fun _ h => h
  unfold fC_errorPosition at hf
  refine lv_aload_n hx hb dL_law_2750 rfl (lv_at hl 2 rfl) ?_
  refine lv_aload_n hx hb dL_law_2751 rfl (lv_at hl 4 rfl) ?_
  obtain ⟨z1, hc1, hf⟩ := br_some hf
  refine mg_cW (As := [.ref (B + 0), .ref (B + 212)]) (rest := []) hx hb hml hown hw hE (mL_errorPosition l E B htr B (Nat.le_refl B) z z1 hc1) cw_L_325 hC hS hAB (cA_ge (Nat.le_refl B)) rfl hl.1 rfl (by decide) (by decide) (Nat.le_of_ble_eq_true rfl) ⟨by show _ + _ ≤ 600006; omega, by show _ + _ ≤ 7302096; omega⟩ dL_law_2752 (fun H locs hC hz hu hS => ?_)
  have hM := Blk.off hM hu (fun q q1 q2 q3 => by rcases q3 with h | h <;> omega)
  refine lv_istore (lv' := [(6, .int z1.1), (5, .int (nI (7 * j))), (0, .ref b), (1, .ref (B + 0)), (2, .ref (B + 202 + 0)), (3, .ref (B + 212)), (4, .ref (B + 213))]) hx hb dL_law_2755 hl (by decide) rfl (fun ls hl => ?_)
  refine lv_aload_n hx hb dL_law_2757 rfl (lv_at hl 4 rfl) ?_
  obtain ⟨y1, hc2, hf⟩ := br_some hf
  refine mg_cV (As := []) (rest := []) hx hb hml hown hw hE (mX12_errorPosition l E B (B + 202) (by omega) M y1 hc2) cv_L_327 (w_recv (k := 0) (ci := 12) hE hM (by decide) rfl rfl) hM hS hAB (fun q h => Nat.le_trans (Nat.le_add_right B 202) h.1) rfl hl.1 rfl (by decide) (by decide) (Nat.le_of_ble_eq_true rfl) ⟨by show _ + _ ≤ 600006; omega, by show _ + _ ≤ 7302096; omega⟩ dL_law_2758 (fun H locs hM hz hu hS => ?_)
  have hC := CW.off hC hz hu (fun q hq q3 => by obtain ⟨q1, q2⟩ := q3; rcases hq with h | h <;> omega)
  refine lv_istore (lv' := [(7, .int y1.1), (6, .int z1.1), (5, .int (nI (7 * j))), (0, .ref b), (1, .ref (B + 0)), (2, .ref (B + 202 + 0)), (3, .ref (B + 212)), (4, .ref (B + 213))]) hx hb dL_law_2761 hl (by decide) rfl (fun ls hl => ?_)
  refine lv_aload_n hx hb dL_law_2763 rfl (lv_at hl 5 rfl) ?_
  refine mg_cV (As := []) (rest := []) hx hb hml hown hw hE (mX12_thrown l E B (B + 202) (by omega) y1.2 (y1.2 0 4) rfl) cv_L_172 (w_recv (k := 0) (ci := 12) hE hM (by decide) rfl rfl) hM hS hAB (fun _ h => h.elim) rfl hl.1 rfl (by decide) (by decide) (Nat.le_of_ble_eq_true rfl) ⟨by show _ + _ ≤ 600006; omega, by show _ + _ ≤ 7302096; omega⟩ dL_law_2764 (fun H locs hM hz hu hS => ?_)
  have hC := CW.off hC hz hu (fun q hq q3 => q3)
  refine lv_iload hx hb dL_law_2767 (lv_at hl 1 rfl) ?_
  obtain ⟨e1, hf⟩ := gd_some hf
  have e1 : y1.2 0 4 = z1.1 := of_decide_eq_true e1
  obtain ⟨e2, hf⟩ := gd_some hf
  have e2 : z1.1 = 0 → z1.2.o = Int32.toInt64 y1.1 := of_decide_eq_true e2
  have hre := Option.some.inj hf
  subst hre
  refine lv_icmp_eq (tgt := 2774) hx hb dL_law_2769 (by decide) (fun _ => ?_) (fun c9 => absurd e1 c9)
  refine lv_iload hx hb dL_law_2774 (lv_at hl 1 rfl) ?_
  have fin : ∀ k9 n9 : Nat, k9 ≤ cs + 40 → n9 ≤ sl + 1000 → W p l e room_1 s m #[Value.ref b] below meth c H locs k9 n9 Q (F0 m 2791 ls []) := by
    intro k9 n9 g9 g8
    refine lv_goto (tgt := 2939) hx hb dL_law_2791 (by decide) ?_
    refine W.widen (k := cs + 40) (n := sl + 1000) g9 g8 ?_
    exact kk _ _ _ hC hM hS (lv_sub hl [2, 3, 4, 5, 6, 7] rfl)
  refine lv_if_ne (tgt := 2791) hx hb dL_law_2776 (by decide) (fun _ => fin _ _ (by omega) (by omega)) (fun c8 => ?_)
  have e2 := e2 c8
  obtain ⟨hG, hN, hT, hV, hHs, hQ, hR, hP, hSb, hO, hOd⟩ := hC
  refine lv_aload_n hx hb dL_law_2779 rfl (lv_at hl 6 rfl) ?_
  refine lv_iconst (v := 0) hx hb dL_law_2780 (by decide) ?_
  rw [e2] at hO
  refine w_lald hx hb hE hO dL_law_2781 ?_
  refine lv_iload hx hb dL_law_2782 (lv_at hl 0 rfl) ?_
  refine lv_i2l hx hb dL_law_2784 rfl ?_
  refine lc_eq hx hb dL_law_2785 ?_
  refine lv_if_eq (tgt := 2791) hx hb dL_law_2786 (by decide) (fun _ => fin _ _ (by omega) (by omega)) (fun c7 => absurd rfl c7)
noncomputable def fC_failedCommand (z : KS) (M : Mem) : Option (KS × Mem) := (fL_failedCommand z).bind fun z1 => (fX12_failedCommand M).bind fun y1 => gd (decide (y1.2 0 4 = z1.1)) (gd (decide (z1.1 = 0 → z1.2.o = Int32.toInt64 y1.1)) (some (z1.2, y1.2)))
set_option maxHeartbeats 4000000 in
set_option maxRecDepth 100000 in
theorem lawC_failedCommand {p : Program} {l : Launch} {e : Env} {s : State} {m : MethodId} {below : List Frame} {meth : Method} {c : Code} {E : EP} {b L B : Nat} {xs : Nat → Int32} {Q : State → Prop} (X : LC p l e s m meth c E b L B xs) {j : Nat} (hj : 7 * j + 7 ≤ L) {z : KS} {M : Mem} {r : KS × Mem} (hf : fC_failedCommand z M = some r) {H : Heap} {locs : List Loc} {ls : Array Slot} {cs sl : Nat} (hcs : cs + 40 ≤ 600006) (hsl : sl + 1000 ≤ 7302096) (hC : CW E B z H) (hM : Blk E (B + 202) modSh 10 M H) (hS : va_S (fun q => B ≤ q) s.heap H locs) (hl : lv_has ls 9 (lawL b B j)) (kk : LK p l e s m below meth c E b B Q j (cs + 40) (sl + 1000) r) : W p l e room_1 s m #[Value.ref b] below meth c H locs cs sl Q (F0 m 2794 ls []) := by
  obtain ⟨hx, hb, hml, hown, hw, hE, htr, hX, hbl, hbB, hL3⟩ := X
  have hAB : ∀ q, (fun q => B ≤ q) q → B ≤ q := fun _ h => h
  unfold fC_failedCommand at hf
  refine lv_aload_n hx hb dL_law_2794 rfl (lv_at hl 2 rfl) ?_
  refine lv_aload_n hx hb dL_law_2795 rfl (lv_at hl 4 rfl) ?_
  obtain ⟨z1, hc1, hf⟩ := br_some hf
  refine mg_cW (As := [.ref (B + 0), .ref (B + 212)]) (rest := []) hx hb hml hown hw hE (mL_failedCommand l E B htr B (Nat.le_refl B) z z1 hc1) cw_L_328 hC hS hAB (cA_ge (Nat.le_refl B)) rfl hl.1 rfl (by decide) (by decide) (Nat.le_of_ble_eq_true rfl) ⟨by show _ + _ ≤ 600006; omega, by show _ + _ ≤ 7302096; omega⟩ dL_law_2796 (fun H locs hC hz hu hS => ?_)
  have hM := Blk.off hM hu (fun q q1 q2 q3 => by rcases q3 with h | h <;> omega)
  refine lv_istore (lv' := [(6, .int z1.1), (5, .int (nI (7 * j))), (0, .ref b), (1, .ref (B + 0)), (2, .ref (B + 202 + 0)), (3, .ref (B + 212)), (4, .ref (B + 213))]) hx hb dL_law_2799 hl (by decide) rfl (fun ls hl => ?_)
  refine lv_aload_n hx hb dL_law_2801 rfl (lv_at hl 4 rfl) ?_
  obtain ⟨y1, hc2, hf⟩ := br_some hf
  refine mg_cV (As := []) (rest := []) hx hb hml hown hw hE (mX12_failedCommand l E B (B + 202) (by omega) M y1 hc2) cv_L_330 (w_recv (k := 0) (ci := 12) hE hM (by decide) rfl rfl) hM hS hAB (fun q h => Nat.le_trans (Nat.le_add_right B 202) h.1) rfl hl.1 rfl (by decide) (by decide) (Nat.le_of_ble_eq_true rfl) ⟨by show _ + _ ≤ 600006; omega, by show _ + _ ≤ 7302096; omega⟩ dL_law_2802 (fun H locs hM hz hu hS => ?_)
  have hC := CW.off hC hz hu (fun q hq q3 => by obtain ⟨q1, q2⟩ := q3; rcases hq with h | h <;> omega)
  refine lv_istore (lv' := [(7, .int y1.1), (6, .int z1.1), (5, .int (nI (7 * j))), (0, .ref b), (1, .ref (B + 0)), (2, .ref (B + 202 + 0)), (3, .ref (B + 212)), (4, .ref (B + 213))]) hx hb dL_law_2805 hl (by decide) rfl (fun ls hl => ?_)
  refine lv_aload_n hx hb dL_law_2807 rfl (lv_at hl 5 rfl) ?_
  refine mg_cV (As := []) (rest := []) hx hb hml hown hw hE (mX12_thrown l E B (B + 202) (by omega) y1.2 (y1.2 0 4) rfl) cv_L_172 (w_recv (k := 0) (ci := 12) hE hM (by decide) rfl rfl) hM hS hAB (fun _ h => h.elim) rfl hl.1 rfl (by decide) (by decide) (Nat.le_of_ble_eq_true rfl) ⟨by show _ + _ ≤ 600006; omega, by show _ + _ ≤ 7302096; omega⟩ dL_law_2808 (fun H locs hM hz hu hS => ?_)
  have hC := CW.off hC hz hu (fun q hq q3 => q3)
  refine lv_iload hx hb dL_law_2811 (lv_at hl 1 rfl) ?_
  obtain ⟨e1, hf⟩ := gd_some hf
  have e1 : y1.2 0 4 = z1.1 := of_decide_eq_true e1
  obtain ⟨e2, hf⟩ := gd_some hf
  have e2 : z1.1 = 0 → z1.2.o = Int32.toInt64 y1.1 := of_decide_eq_true e2
  have hre := Option.some.inj hf
  subst hre
  refine lv_icmp_eq (tgt := 2818) hx hb dL_law_2813 (by decide) (fun _ => ?_) (fun c9 => absurd e1 c9)
  refine lv_iload hx hb dL_law_2818 (lv_at hl 1 rfl) ?_
  have fin : ∀ k9 n9 : Nat, k9 ≤ cs + 40 → n9 ≤ sl + 1000 → W p l e room_1 s m #[Value.ref b] below meth c H locs k9 n9 Q (F0 m 2835 ls []) := by
    intro k9 n9 g9 g8
    refine lv_goto (tgt := 2939) hx hb dL_law_2835 (by decide) ?_
    refine W.widen (k := cs + 40) (n := sl + 1000) g9 g8 ?_
    exact kk _ _ _ hC hM hS (lv_sub hl [2, 3, 4, 5, 6, 7] rfl)
  refine lv_if_ne (tgt := 2835) hx hb dL_law_2820 (by decide) (fun _ => fin _ _ (by omega) (by omega)) (fun c8 => ?_)
  have e2 := e2 c8
  obtain ⟨hG, hN, hT, hV, hHs, hQ, hR, hP, hSb, hO, hOd⟩ := hC
  refine lv_aload_n hx hb dL_law_2823 rfl (lv_at hl 6 rfl) ?_
  refine lv_iconst (v := 0) hx hb dL_law_2824 (by decide) ?_
  rw [e2] at hO
  refine w_lald hx hb hE hO dL_law_2825 ?_
  refine lv_iload hx hb dL_law_2826 (lv_at hl 0 rfl) ?_
  refine lv_i2l hx hb dL_law_2828 rfl ?_
  refine lc_eq hx hb dL_law_2829 ?_
  refine lv_if_eq (tgt := 2835) hx hb dL_law_2830 (by decide) (fun _ => fin _ _ (by omega) (by omega)) (fun c7 => absurd rfl c7)
noncomputable def fC_undo (z : KS) (M : Mem) : Option (KS × Mem) := (fL_undo z).bind fun z1 => (fX12_undo M).bind fun y1 => gd (decide (y1.2 0 4 = z1.1)) (gd (decide (z1.1 = 0 → z1.2.o = Int32.toInt64 y1.1)) (some (z1.2, y1.2)))
set_option maxHeartbeats 4000000 in
set_option maxRecDepth 100000 in
theorem lawC_undo {p : Program} {l : Launch} {e : Env} {s : State} {m : MethodId} {below : List Frame} {meth : Method} {c : Code} {E : EP} {b L B : Nat} {xs : Nat → Int32} {Q : State → Prop} (X : LC p l e s m meth c E b L B xs) {j : Nat} (hj : 7 * j + 7 ≤ L) {z : KS} {M : Mem} {r : KS × Mem} (hf : fC_undo z M = some r) {H : Heap} {locs : List Loc} {ls : Array Slot} {cs sl : Nat} (hcs : cs + 40 ≤ 600006) (hsl : sl + 1000 ≤ 7302096) (hC : CW E B z H) (hM : Blk E (B + 202) modSh 10 M H) (hS : va_S (fun q => B ≤ q) s.heap H locs) (hl : lv_has ls 9 (lawL b B j)) (kk : LK p l e s m below meth c E b B Q j (cs + 40) (sl + 1000) r) : W p l e room_1 s m #[Value.ref b] below meth c H locs cs sl Q (F0 m 2838 ls []) := by
  obtain ⟨hx, hb, hml, hown, hw, hE, htr, hX, hbl, hbB, hL3⟩ := X
  have hAB : ∀ q, (fun q => B ≤ q) q → B ≤ q := fun _ h => h
  unfold fC_undo at hf
  refine lv_aload_n hx hb dL_law_2838 rfl (lv_at hl 2 rfl) ?_
  refine lv_aload_n hx hb dL_law_2839 rfl (lv_at hl 4 rfl) ?_
  obtain ⟨z1, hc1, hf⟩ := br_some hf
  refine mg_cW (As := [.ref (B + 0), .ref (B + 212)]) (rest := []) hx hb hml hown hw hE (mL_undo l E B htr B (Nat.le_refl B) z z1 hc1) cw_L_331 hC hS hAB (cA_ge (Nat.le_refl B)) rfl hl.1 rfl (by decide) (by decide) (Nat.le_of_ble_eq_true rfl) ⟨by show _ + _ ≤ 600006; omega, by show _ + _ ≤ 7302096; omega⟩ dL_law_2840 (fun H locs hC hz hu hS => ?_)
  have hM := Blk.off hM hu (fun q q1 q2 q3 => by rcases q3 with h | h <;> omega)
  refine lv_istore (lv' := [(6, .int z1.1), (5, .int (nI (7 * j))), (0, .ref b), (1, .ref (B + 0)), (2, .ref (B + 202 + 0)), (3, .ref (B + 212)), (4, .ref (B + 213))]) hx hb dL_law_2843 hl (by decide) rfl (fun ls hl => ?_)
  refine lv_aload_n hx hb dL_law_2845 rfl (lv_at hl 4 rfl) ?_
  obtain ⟨y1, hc2, hf⟩ := br_some hf
  refine mg_cV (As := []) (rest := []) hx hb hml hown hw hE (mX12_undo l E B (B + 202) (by omega) M y1 hc2) cv_L_333 (w_recv (k := 0) (ci := 12) hE hM (by decide) rfl rfl) hM hS hAB (fun q h => Nat.le_trans (Nat.le_add_right B 202) h.1) rfl hl.1 rfl (by decide) (by decide) (Nat.le_of_ble_eq_true rfl) ⟨by show _ + _ ≤ 600006; omega, by show _ + _ ≤ 7302096; omega⟩ dL_law_2846 (fun H locs hM hz hu hS => ?_)
  have hC := CW.off hC hz hu (fun q hq q3 => by obtain ⟨q1, q2⟩ := q3; rcases hq with h | h <;> omega)
  refine lv_istore (lv' := [(7, .int y1.1), (6, .int z1.1), (5, .int (nI (7 * j))), (0, .ref b), (1, .ref (B + 0)), (2, .ref (B + 202 + 0)), (3, .ref (B + 212)), (4, .ref (B + 213))]) hx hb dL_law_2849 hl (by decide) rfl (fun ls hl => ?_)
  refine lv_aload_n hx hb dL_law_2851 rfl (lv_at hl 5 rfl) ?_
  refine mg_cV (As := []) (rest := []) hx hb hml hown hw hE (mX12_thrown l E B (B + 202) (by omega) y1.2 (y1.2 0 4) rfl) cv_L_172 (w_recv (k := 0) (ci := 12) hE hM (by decide) rfl rfl) hM hS hAB (fun _ h => h.elim) rfl hl.1 rfl (by decide) (by decide) (Nat.le_of_ble_eq_true rfl) ⟨by show _ + _ ≤ 600006; omega, by show _ + _ ≤ 7302096; omega⟩ dL_law_2852 (fun H locs hM hz hu hS => ?_)
  have hC := CW.off hC hz hu (fun q hq q3 => q3)
  refine lv_iload hx hb dL_law_2855 (lv_at hl 1 rfl) ?_
  obtain ⟨e1, hf⟩ := gd_some hf
  have e1 : y1.2 0 4 = z1.1 := of_decide_eq_true e1
  obtain ⟨e2, hf⟩ := gd_some hf
  have e2 : z1.1 = 0 → z1.2.o = Int32.toInt64 y1.1 := of_decide_eq_true e2
  have hre := Option.some.inj hf
  subst hre
  refine lv_icmp_eq (tgt := 2862) hx hb dL_law_2857 (by decide) (fun _ => ?_) (fun c9 => absurd e1 c9)
  refine lv_iload hx hb dL_law_2862 (lv_at hl 1 rfl) ?_
  have fin : ∀ k9 n9 : Nat, k9 ≤ cs + 40 → n9 ≤ sl + 1000 → W p l e room_1 s m #[Value.ref b] below meth c H locs k9 n9 Q (F0 m 2879 ls []) := by
    intro k9 n9 g9 g8
    refine lv_goto (tgt := 2939) hx hb dL_law_2879 (by decide) ?_
    refine W.widen (k := cs + 40) (n := sl + 1000) g9 g8 ?_
    exact kk _ _ _ hC hM hS (lv_sub hl [2, 3, 4, 5, 6, 7] rfl)
  refine lv_if_ne (tgt := 2879) hx hb dL_law_2864 (by decide) (fun _ => fin _ _ (by omega) (by omega)) (fun c8 => ?_)
  have e2 := e2 c8
  obtain ⟨hG, hN, hT, hV, hHs, hQ, hR, hP, hSb, hO, hOd⟩ := hC
  refine lv_aload_n hx hb dL_law_2867 rfl (lv_at hl 6 rfl) ?_
  refine lv_iconst (v := 0) hx hb dL_law_2868 (by decide) ?_
  rw [e2] at hO
  refine w_lald hx hb hE hO dL_law_2869 ?_
  refine lv_iload hx hb dL_law_2870 (lv_at hl 0 rfl) ?_
  refine lv_i2l hx hb dL_law_2872 rfl ?_
  refine lc_eq hx hb dL_law_2873 ?_
  refine lv_if_eq (tgt := 2879) hx hb dL_law_2874 (by decide) (fun _ => fin _ _ (by omega) (by omega)) (fun c7 => absurd rfl c7)
noncomputable def fC_save (z : KS) (M : Mem) : Option (KS × Mem) := (fX11_save z.G z.N z.V).bind fun z1 => (fX12_save M).bind fun y1 => gd (decide (z1.1 = y1.1)) (some ((KS.mk z1.2.1 z.N z.T z1.2.2 z.Hs z.Q z.R z.P z.Sb z.o z.od), y1.2))
set_option maxHeartbeats 4000000 in
set_option maxRecDepth 100000 in
theorem lawC_save {p : Program} {l : Launch} {e : Env} {s : State} {m : MethodId} {below : List Frame} {meth : Method} {c : Code} {E : EP} {b L B : Nat} {xs : Nat → Int32} {Q : State → Prop} (X : LC p l e s m meth c E b L B xs) {j : Nat} (hj : 7 * j + 7 ≤ L) {z : KS} {M : Mem} {r : KS × Mem} (hf : fC_save z M = some r) {H : Heap} {locs : List Loc} {ls : Array Slot} {cs sl : Nat} (hcs : cs + 40 ≤ 600006) (hsl : sl + 1000 ≤ 7302096) (hC : CW E B z H) (hM : Blk E (B + 202) modSh 10 M H) (hS : va_S (fun q => B ≤ q) s.heap H locs) (hl : lv_has ls 9 (lawL b B j)) (kk : LK p l e s m below meth c E b B Q j (cs + 40) (sl + 1000) r) : W p l e room_1 s m #[Value.ref b] below meth c H locs cs sl Q (F0 m 2882 ls []) := by
  obtain ⟨hx, hb, hml, hown, hw, hE, htr, hX, hbl, hbB, hL3⟩ := X
  have hAB : ∀ q, (fun q => B ≤ q) q → B ≤ q := fun _ h => h
  unfold fC_save at hf
  refine lv_aload_n hx hb dL_law_2882 rfl (lv_at hl 2 rfl) ?_
  obtain ⟨hG, hN, hT, hV, hHs, hQ, hR, hP, hSb, hO, hOd⟩ := hC
  obtain ⟨z1, hc1, hf⟩ := br_some hf
  refine mg_cV (As := []) (rest := []) hx hb hml hown hw hE (mX11_save l E B B (B + 214) (Nat.le_refl B) (by omega) z.G z.N z.V z1 hc1) cv_L_334 (w_recv (k := 0) (ci := 11) hE hG (by decide) rfl rfl) ⟨hG, hN, hV⟩ hS hAB (fun q h => by simp only [orA, iv, nv, sbA] at h; show B ≤ q; omega) rfl hl.1 rfl (by decide) (by decide) (Nat.le_of_ble_eq_true rfl) ⟨by show _ + _ ≤ 600006; omega, by show _ + _ ≤ 7302096; omega⟩ dL_law_2883 (fun H locs hP9 hz hu hS => ?_)
  obtain ⟨hG, hN, hV⟩ := hP9
  have hT := Blk.off hT hu (or_dis (iv_dis (by omega)) (iv_dis (by omega)))
  have hHs := Blk.off hHs hu (or_dis (iv_dis (by omega)) (iv_dis (by omega)))
  have hQ := Fam.off hQ hu (or_dis (iv_dis (by omega)) (iv_dis (by omega)))
  have hR := Blk.off hR hu (or_dis (iv_dis (by omega)) (iv_dis (by omega)))
  have hP := Blk.off hP hu (or_dis (iv_dis (by omega)) (iv_dis (by omega)))
  have hSb := SBt.off hSb hz hu (or_dis_s (sb_iv_dis (by omega) (by omega)) (sb_iv_dis (by omega) (by omega)))
  have hO := LO.off hO hu (fun h => by simp only [orA, iv, nv, sbA] at h; omega)
  have hOd := LD.off hOd hu (fun h => by simp only [orA, iv, nv, sbA] at h; omega)
  have hM := Blk.off hM hu (fun q q1 q2 h => by simp only [orA, iv, nv, sbA] at h; omega)
  have hC : CW E B (KS.mk z1.2.1 z.N z.T z1.2.2 z.Hs z.Q z.R z.P z.Sb z.o z.od) H := ⟨hG, hN, hT, hV, hHs, hQ, hR, hP, hSb, hO, hOd⟩
  refine lv_aload_n hx hb dL_law_2886 rfl (lv_at hl 3 rfl) ?_
  obtain ⟨y1, hc2, hf⟩ := br_some hf
  refine mg_cV (As := []) (rest := [.int z1.1]) hx hb hml hown hw hE (mX12_save l E B (B + 202) (by omega) M y1 hc2) cv_L_337 (w_recv (k := 0) (ci := 12) hE hM (by decide) rfl rfl) hM hS hAB (fun q h => Nat.le_trans (Nat.le_add_right B 202) h.1) rfl hl.1 rfl (by decide) (by decide) (Nat.le_of_ble_eq_true rfl) ⟨by show _ + _ ≤ 600006; omega, by show _ + _ ≤ 7302096; omega⟩ dL_law_2887 (fun H locs hM hz hu hS => ?_)
  have hC := CW.off hC hz hu (fun q hq q3 => by obtain ⟨q1, q2⟩ := q3; rcases hq with h | h <;> omega)
  obtain ⟨e1, hf⟩ := gd_some hf
  have e1 : z1.1 = y1.1 := of_decide_eq_true e1
  have hre := Option.some.inj hf
  subst hre
  refine lv_icmp_eq (tgt := 2939) hx hb dL_law_2890 (by decide) (fun _ => ?_) (fun c9 => absurd e1 c9)
  refine W.widen (k := cs + 40) (n := sl + 1000) (by omega) (by omega) ?_
  exact kk _ _ _ hC hM hS hl
noncomputable def fC_restore (z : KS) (M : Mem) : Option (KS × Mem) := (fL_restore z).bind fun z1 => (fX12_restore M).bind fun y1 => gd (decide (y1.2 0 4 = z1.1)) (gd (decide (z1.1 = 0 → z1.2.o = Int32.toInt64 y1.1)) (some (z1.2, y1.2)))
set_option maxHeartbeats 4000000 in
set_option maxRecDepth 100000 in
theorem lawC_restore {p : Program} {l : Launch} {e : Env} {s : State} {m : MethodId} {below : List Frame} {meth : Method} {c : Code} {E : EP} {b L B : Nat} {xs : Nat → Int32} {Q : State → Prop} (X : LC p l e s m meth c E b L B xs) {j : Nat} (hj : 7 * j + 7 ≤ L) {z : KS} {M : Mem} {r : KS × Mem} (hf : fC_restore z M = some r) {H : Heap} {locs : List Loc} {ls : Array Slot} {cs sl : Nat} (hcs : cs + 40 ≤ 600006) (hsl : sl + 1000 ≤ 7302096) (hC : CW E B z H) (hM : Blk E (B + 202) modSh 10 M H) (hS : va_S (fun q => B ≤ q) s.heap H locs) (hl : lv_has ls 9 (lawL b B j)) (kk : LK p l e s m below meth c E b B Q j (cs + 40) (sl + 1000) r) : W p l e room_1 s m #[Value.ref b] below meth c H locs cs sl Q (F0 m 2895 ls []) := by
  obtain ⟨hx, hb, hml, hown, hw, hE, htr, hX, hbl, hbB, hL3⟩ := X
  have hAB : ∀ q, (fun q => B ≤ q) q → B ≤ q := fun _ h => h
  unfold fC_restore at hf
  refine lv_aload_n hx hb dL_law_2895 rfl (lv_at hl 2 rfl) ?_
  refine lv_aload_n hx hb dL_law_2896 rfl (lv_at hl 4 rfl) ?_
  obtain ⟨z1, hc1, hf⟩ := br_some hf
  refine mg_cW (As := [.ref (B + 0), .ref (B + 212)]) (rest := []) hx hb hml hown hw hE (mL_restore l E B htr B (Nat.le_refl B) z z1 hc1) cw_L_338 hC hS hAB (cA_ge (Nat.le_refl B)) rfl hl.1 rfl (by decide) (by decide) (Nat.le_of_ble_eq_true rfl) ⟨by show _ + _ ≤ 600006; omega, by show _ + _ ≤ 7302096; omega⟩ dL_law_2897 (fun H locs hC hz hu hS => ?_)
  have hM := Blk.off hM hu (fun q q1 q2 q3 => by rcases q3 with h | h <;> omega)
  refine lv_istore (lv' := [(6, .int z1.1), (5, .int (nI (7 * j))), (0, .ref b), (1, .ref (B + 0)), (2, .ref (B + 202 + 0)), (3, .ref (B + 212)), (4, .ref (B + 213))]) hx hb dL_law_2900 hl (by decide) rfl (fun ls hl => ?_)
  refine lv_aload_n hx hb dL_law_2902 rfl (lv_at hl 4 rfl) ?_
  obtain ⟨y1, hc2, hf⟩ := br_some hf
  refine mg_cV (As := []) (rest := []) hx hb hml hown hw hE (mX12_restore l E B (B + 202) (by omega) M y1 hc2) cv_L_340 (w_recv (k := 0) (ci := 12) hE hM (by decide) rfl rfl) hM hS hAB (fun q h => Nat.le_trans (Nat.le_add_right B 202) h.1) rfl hl.1 rfl (by decide) (by decide) (Nat.le_of_ble_eq_true rfl) ⟨by show _ + _ ≤ 600006; omega, by show _ + _ ≤ 7302096; omega⟩ dL_law_2903 (fun H locs hM hz hu hS => ?_)
  have hC := CW.off hC hz hu (fun q hq q3 => by obtain ⟨q1, q2⟩ := q3; rcases hq with h | h <;> omega)
  refine lv_istore (lv' := [(7, .int y1.1), (6, .int z1.1), (5, .int (nI (7 * j))), (0, .ref b), (1, .ref (B + 0)), (2, .ref (B + 202 + 0)), (3, .ref (B + 212)), (4, .ref (B + 213))]) hx hb dL_law_2906 hl (by decide) rfl (fun ls hl => ?_)
  refine lv_aload_n hx hb dL_law_2908 rfl (lv_at hl 5 rfl) ?_
  refine mg_cV (As := []) (rest := []) hx hb hml hown hw hE (mX12_thrown l E B (B + 202) (by omega) y1.2 (y1.2 0 4) rfl) cv_L_172 (w_recv (k := 0) (ci := 12) hE hM (by decide) rfl rfl) hM hS hAB (fun _ h => h.elim) rfl hl.1 rfl (by decide) (by decide) (Nat.le_of_ble_eq_true rfl) ⟨by show _ + _ ≤ 600006; omega, by show _ + _ ≤ 7302096; omega⟩ dL_law_2909 (fun H locs hM hz hu hS => ?_)
  have hC := CW.off hC hz hu (fun q hq q3 => q3)
  refine lv_iload hx hb dL_law_2912 (lv_at hl 1 rfl) ?_
  obtain ⟨e1, hf⟩ := gd_some hf
  have e1 : y1.2 0 4 = z1.1 := of_decide_eq_true e1
  obtain ⟨e2, hf⟩ := gd_some hf
  have e2 : z1.1 = 0 → z1.2.o = Int32.toInt64 y1.1 := of_decide_eq_true e2
  have hre := Option.some.inj hf
  subst hre
  refine lv_icmp_eq (tgt := 2919) hx hb dL_law_2914 (by decide) (fun _ => ?_) (fun c9 => absurd e1 c9)
  refine lv_iload hx hb dL_law_2919 (lv_at hl 1 rfl) ?_
  have fin : ∀ k9 n9 : Nat, k9 ≤ cs + 40 → n9 ≤ sl + 1000 → W p l e room_1 s m #[Value.ref b] below meth c H locs k9 n9 Q (F0 m 2936 ls []) := by
    intro k9 n9 g9 g8
    refine lv_goto (tgt := 2939) hx hb dL_law_2936 (by decide) ?_
    refine W.widen (k := cs + 40) (n := sl + 1000) g9 g8 ?_
    exact kk _ _ _ hC hM hS (lv_sub hl [2, 3, 4, 5, 6, 7] rfl)
  refine lv_if_ne (tgt := 2936) hx hb dL_law_2921 (by decide) (fun _ => fin _ _ (by omega) (by omega)) (fun c8 => ?_)
  have e2 := e2 c8
  obtain ⟨hG, hN, hT, hV, hHs, hQ, hR, hP, hSb, hO, hOd⟩ := hC
  refine lv_aload_n hx hb dL_law_2924 rfl (lv_at hl 6 rfl) ?_
  refine lv_iconst (v := 0) hx hb dL_law_2925 (by decide) ?_
  rw [e2] at hO
  refine w_lald hx hb hE hO dL_law_2926 ?_
  refine lv_iload hx hb dL_law_2927 (lv_at hl 0 rfl) ?_
  refine lv_i2l hx hb dL_law_2929 rfl ?_
  refine lc_eq hx hb dL_law_2930 ?_
  refine lv_if_eq (tgt := 2936) hx hb dL_law_2931 (by decide) (fun _ => fin _ _ (by omega) (by omega)) (fun c7 => absurd rfl c7)
