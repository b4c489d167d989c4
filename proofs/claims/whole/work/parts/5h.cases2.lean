/-! cases, on -/
section LWC
variable {p : Program} {e : Env} {s : State} {m : MethodId} {below : List Frame} {meth : Method} {c : Code} {H : Heap} {locs : List Loc} {Q : State → Prop} {ls : Array Slot} {rest : List Value} {b L I : Nat} {xs : Nat → Int32} {Z : ow_Z} {X M : ow_S}
theorem lw_c3 (l : Launch) (C : lw_C p s m c b L xs Z) (hI : I + 7 ≤ L) (hl : lv_has ls 4 (lw_lv Z b I)) (hW : lw_W Z X M s H locs) (kk : ∀ (X M : ow_S) (H : Heap) (locs : List Loc), lw_W Z X M s H locs → W p l e room_1 s m #[Value.ref b] below meth c H locs 76 4667 Q (F0 m 1656 ls [])) : W p l e room_1 s m #[Value.ref b] below meth c H locs 76 4667 Q (F0 m 285 ls []) := by
  obtain ⟨hx, hb, hml, hown, hts, hX, hbl, hG, hd, hL⟩ := C
  obtain ⟨h8, h9, hR⟩ := hW
  obtain ⟨r, X1, M1, f8, f9, hR1⟩ := o_fill 1000 (Nat.le_refl _) (xs (I + 1)) (xs (I + 2)) X M hR
  have hS := h8.2.2.1
  refine lv_aload_n hx hb dL_law_285 rfl (lv_at hl 2 rfl) ?_
  refine lw_arg 1 hx hb hX hbl hL hS hl hI (by decide) dL_law_286 dL_law_287 dL_law_288 rfl dL_law_289 dL_law_290 ?_
  refine lw_arg 2 hx hb hX hbl hL hS hl hI (by decide) dL_law_291 dL_law_292 dL_law_293 rfl dL_law_294 dL_law_295 ?_
  refine o_calli (va_runV (As := [.int (xs (I + 1)), .int (xs (I + 2))]) (rest := []) ⟨hx, hb, hml, hown, hts⟩ (c_X8_fill l Z 1000 (xs (I + 1)) (xs (I + 2)) X r X1 f8) (cwV 2 hts gL_law_X8_fill rfl rfl rfl (by decide +kernel) ⟨(Nat.le_of_ble_eq_true rfl), (Nat.le_of_ble_eq_true rfl)⟩) (o_preV hG h8 ow_i0 (by decide) rfl) rfl rfl hl.1 rfl (lv_room (Nat.le_of_ble_eq_true rfl)) dL_law_296 ⟨(Nat.le_of_ble_eq_true rfl), (Nat.le_of_ble_eq_true rfl)⟩) h8 (fun H1 locs1 h8 hz hk => ?_)
  have h9 := h9.kept h8.2.2.1 hk (fun q h1 h2 => hd q h2 h1)
  have hS := h8.2.2.1
  refine lv_aload_n hx hb dL_law_299 rfl (lv_at hl 1 rfl) ?_
  refine lw_arg 1 hx hb hX hbl hL hS hl hI (by decide) dL_law_300 dL_law_301 dL_law_302 rfl dL_law_303 dL_law_304 ?_
  refine lw_arg 2 hx hb hX hbl hL hS hl hI (by decide) dL_law_305 dL_law_306 dL_law_307 rfl dL_law_308 dL_law_309 ?_
  refine o_calli (va_runV (As := [.int (xs (I + 1)), .int (xs (I + 2))]) (rest := [.int r]) ⟨hx, hb, hml, hown, hts⟩ (c_X9_fill l Z 1000 (xs (I + 1)) (xs (I + 2)) M r M1 f9) (cwV 2 hts gL_law_X9_fill rfl rfl rfl (by decide +kernel) ⟨(Nat.le_of_ble_eq_true rfl), (Nat.le_of_ble_eq_true rfl)⟩) (o_preV hG h9 ow_i56 (by decide) rfl) rfl rfl hl.1 rfl (lv_room (Nat.le_of_ble_eq_true rfl)) dL_law_310 ⟨(Nat.le_of_ble_eq_true rfl), (Nat.le_of_ble_eq_true rfl)⟩) h9 (fun H2 locs2 h9 hz2 hk2 => ?_)
  have h8 := h8.kept h9.2.2.1 hk2 hd
  exact lv_icmp_eq (tgt := 1656) hx hb dL_law_313 (by decide) (fun _ => kk _ _ _ _ ⟨h8, h9, hR1⟩) (fun c => absurd rfl c)
theorem lw_c4 (l : Launch) (C : lw_C p s m c b L xs Z) (hI : I + 7 ≤ L) (hl : lv_has ls 4 (lw_lv Z b I)) (hW : lw_W Z X M s H locs) (kk : ∀ (X M : ow_S) (H : Heap) (locs : List Loc), lw_W Z X M s H locs → W p l e room_1 s m #[Value.ref b] below meth c H locs 76 4667 Q (F0 m 1656 ls [])) : W p l e room_1 s m #[Value.ref b] below meth c H locs 76 4667 Q (F0 m 318 ls []) := by
  obtain ⟨hx, hb, hml, hown, hts, hX, hbl, hG, hd, hL⟩ := C
  obtain ⟨h8, h9, hR⟩ := hW
  obtain ⟨r, X1, M1, f8, f9, hR1⟩ := o_at 1000 (xs (I + 1)) X M hR
  have hS := h8.2.2.1
  refine lv_aload_n hx hb dL_law_318 rfl (lv_at hl 2 rfl) ?_
  refine lw_arg 1 hx hb hX hbl hL hS hl hI (by decide) dL_law_319 dL_law_320 dL_law_321 rfl dL_law_322 dL_law_323 ?_
  refine o_calli (va_runV (As := [.int (xs (I + 1))]) (rest := []) ⟨hx, hb, hml, hown, hts⟩ (c_X8_at l Z 1000 (xs (I + 1)) X r X1 f8) (cwV 1 hts gL_law_X8_at rfl rfl rfl (by decide +kernel) ⟨(Nat.le_of_ble_eq_true rfl), (Nat.le_of_ble_eq_true rfl)⟩) (o_preV hG h8 ow_i0 (by decide) rfl) rfl rfl hl.1 rfl (lv_room (Nat.le_of_ble_eq_true rfl)) dL_law_324 ⟨(Nat.le_of_ble_eq_true rfl), (Nat.le_of_ble_eq_true rfl)⟩) h8 (fun H1 locs1 h8 hz hk => ?_)
  have h9 := h9.kept h8.2.2.1 hk (fun q h1 h2 => hd q h2 h1)
  have hS := h8.2.2.1
  refine lv_aload_n hx hb dL_law_327 rfl (lv_at hl 1 rfl) ?_
  refine lw_arg 1 hx hb hX hbl hL hS hl hI (by decide) dL_law_328 dL_law_329 dL_law_330 rfl dL_law_331 dL_law_332 ?_
  refine o_calli (va_runV (As := [.int (xs (I + 1))]) (rest := [.int r]) ⟨hx, hb, hml, hown, hts⟩ (c_X9_at l Z 1000 (xs (I + 1)) M r M1 f9) (cwV 1 hts gL_law_X9_at rfl rfl rfl (by decide +kernel) ⟨(Nat.le_of_ble_eq_true rfl), (Nat.le_of_ble_eq_true rfl)⟩) (o_preV hG h9 ow_i56 (by decide) rfl) rfl rfl hl.1 rfl (lv_room (Nat.le_of_ble_eq_true rfl)) dL_law_333 ⟨(Nat.le_of_ble_eq_true rfl), (Nat.le_of_ble_eq_true rfl)⟩) h9 (fun H2 locs2 h9 hz2 hk2 => ?_)
  have h8 := h8.kept h9.2.2.1 hk2 hd
  exact lv_icmp_eq (tgt := 1656) hx hb dL_law_336 (by decide) (fun _ => kk _ _ _ _ ⟨h8, h9, hR1⟩) (fun c => absurd rfl c)
theorem lw_c5 (l : Launch) (C : lw_C p s m c b L xs Z) (hI : I + 7 ≤ L) (hl : lv_has ls 4 (lw_lv Z b I)) (hW : lw_W Z X M s H locs) (kk : ∀ (X M : ow_S) (H : Heap) (locs : List Loc), lw_W Z X M s H locs → W p l e room_1 s m #[Value.ref b] below meth c H locs 76 4667 Q (F0 m 1656 ls [])) : W p l e room_1 s m #[Value.ref b] below meth c H locs 76 4667 Q (F0 m 341 ls []) := by
  obtain ⟨hx, hb, hml, hown, hts, hX, hbl, hG, hd, hL⟩ := C
  obtain ⟨h8, h9, hR⟩ := hW
  obtain ⟨r, X1, M1, f8, f9, hR1⟩ := o_turn 1000 (Nat.le_refl _) (xs (I + 1)) X M hR
  have hS := h8.2.2.1
  refine lv_aload_n hx hb dL_law_341 rfl (lv_at hl 2 rfl) ?_
  refine lw_arg 1 hx hb hX hbl hL hS hl hI (by decide) dL_law_342 dL_law_343 dL_law_344 rfl dL_law_345 dL_law_346 ?_
  refine o_calli (va_runV (As := [.int (xs (I + 1))]) (rest := []) ⟨hx, hb, hml, hown, hts⟩ (c_X8_turn l Z 1000 (xs (I + 1)) X r X1 f8) (cwV 1 hts gL_law_X8_turn rfl rfl rfl (by decide +kernel) ⟨(Nat.le_of_ble_eq_true rfl), (Nat.le_of_ble_eq_true rfl)⟩) (o_preV hG h8 ow_i0 (by decide) rfl) rfl rfl hl.1 rfl (lv_room (Nat.le_of_ble_eq_true rfl)) dL_law_347 ⟨(Nat.le_of_ble_eq_true rfl), (Nat.le_of_ble_eq_true rfl)⟩) h8 (fun H1 locs1 h8 hz hk => ?_)
  have h9 := h9.kept h8.2.2.1 hk (fun q h1 h2 => hd q h2 h1)
  have hS := h8.2.2.1
  refine lv_aload_n hx hb dL_law_350 rfl (lv_at hl 1 rfl) ?_
  refine lw_arg 1 hx hb hX hbl hL hS hl hI (by decide) dL_law_351 dL_law_352 dL_law_353 rfl dL_law_354 dL_law_355 ?_
  refine o_calli (va_runV (As := [.int (xs (I + 1))]) (rest := [.int r]) ⟨hx, hb, hml, hown, hts⟩ (c_X9_turn l Z 1000 (xs (I + 1)) M r M1 f9) (cwV 1 hts gL_law_X9_turn rfl rfl rfl (by decide +kernel) ⟨(Nat.le_of_ble_eq_true rfl), (Nat.le_of_ble_eq_true rfl)⟩) (o_preV hG h9 ow_i56 (by decide) rfl) rfl rfl hl.1 rfl (lv_room (Nat.le_of_ble_eq_true rfl)) dL_law_356 ⟨(Nat.le_of_ble_eq_true rfl), (Nat.le_of_ble_eq_true rfl)⟩) h9 (fun H2 locs2 h9 hz2 hk2 => ?_)
  have h8 := h8.kept h9.2.2.1 hk2 hd
  exact lv_icmp_eq (tgt := 1656) hx hb dL_law_359 (by decide) (fun _ => kk _ _ _ _ ⟨h8, h9, hR1⟩) (fun c => absurd rfl c)
theorem lw_c6 (l : Launch) (C : lw_C p s m c b L xs Z) (hI : I + 7 ≤ L) (hl : lv_has ls 4 (lw_lv Z b I)) (hW : lw_W Z X M s H locs) (kk : ∀ (X M : ow_S) (H : Heap) (locs : List Loc), lw_W Z X M s H locs → W p l e room_1 s m #[Value.ref b] below meth c H locs 76 4667 Q (F0 m 1656 ls [])) : W p l e room_1 s m #[Value.ref b] below meth c H locs 76 4667 Q (F0 m 364 ls []) := by
  obtain ⟨hx, hb, hml, hown, hts, hX, hbl, hG, hd, hL⟩ := C
  obtain ⟨h8, h9, hR⟩ := hW
  obtain ⟨r, X1, M1, f8, f9, hR1⟩ := o_missing 1000 (Nat.le_refl _) (xs (I + 1)) X M hR
  have hS := h8.2.2.1
  refine lv_aload_n hx hb dL_law_364 rfl (lv_at hl 2 rfl) ?_
  refine lw_arg 1 hx hb hX hbl hL hS hl hI (by decide) dL_law_365 dL_law_366 dL_law_367 rfl dL_law_368 dL_law_369 ?_
  refine o_calli (va_runV (As := [.int (xs (I + 1))]) (rest := []) ⟨hx, hb, hml, hown, hts⟩ (c_X8_missing l Z 1000 (xs (I + 1)) X r X1 f8) (cwV 1 hts gL_law_X8_missing rfl rfl rfl (by decide +kernel) ⟨(Nat.le_of_ble_eq_true rfl), (Nat.le_of_ble_eq_true rfl)⟩) (o_preV hG h8 ow_i0 (by decide) rfl) rfl rfl hl.1 rfl (lv_room (Nat.le_of_ble_eq_true rfl)) dL_law_370 ⟨(Nat.le_of_ble_eq_true rfl), (Nat.le_of_ble_eq_true rfl)⟩) h8 (fun H1 locs1 h8 hz hk => ?_)
  have h9 := h9.kept h8.2.2.1 hk (fun q h1 h2 => hd q h2 h1)
  have hS := h8.2.2.1
  refine lv_aload_n hx hb dL_law_373 rfl (lv_at hl 1 rfl) ?_
  refine lw_arg 1 hx hb hX hbl hL hS hl hI (by decide) dL_law_374 dL_law_375 dL_law_376 rfl dL_law_377 dL_law_378 ?_
  refine o_calli (va_runV (As := [.int (xs (I + 1))]) (rest := [.int r]) ⟨hx, hb, hml, hown, hts⟩ (c_X9_missing l Z 1000 (xs (I + 1)) M r M1 f9) (cwV 1 hts gL_law_X9_missing rfl rfl rfl (by decide +kernel) ⟨(Nat.le_of_ble_eq_true rfl), (Nat.le_of_ble_eq_true rfl)⟩) (o_preV hG h9 ow_i56 (by decide) rfl) rfl rfl hl.1 rfl (lv_room (Nat.le_of_ble_eq_true rfl)) dL_law_379 ⟨(Nat.le_of_ble_eq_true rfl), (Nat.le_of_ble_eq_true rfl)⟩) h9 (fun H2 locs2 h9 hz2 hk2 => ?_)
  have h8 := h8.kept h9.2.2.1 hk2 hd
  exact lv_icmp_eq (tgt := 1656) hx hb dL_law_382 (by decide) (fun _ => kk _ _ _ _ ⟨h8, h9, hR1⟩) (fun c => absurd rfl c)
theorem lw_c7 (l : Launch) (C : lw_C p s m c b L xs Z) (hI : I + 7 ≤ L) (hl : lv_has ls 4 (lw_lv Z b I)) (hW : lw_W Z X M s H locs) (kk : ∀ (X M : ow_S) (H : Heap) (locs : List Loc), lw_W Z X M s H locs → W p l e room_1 s m #[Value.ref b] below meth c H locs 76 4667 Q (F0 m 1656 ls [])) : W p l e room_1 s m #[Value.ref b] below meth c H locs 76 4667 Q (F0 m 387 ls []) := by
  obtain ⟨hx, hb, hml, hown, hts, hX, hbl, hG, hd, hL⟩ := C
  obtain ⟨h8, h9, hR⟩ := hW
  obtain ⟨r, X1, M1, f8, f9, hR1⟩ := o_truth 1000 (Nat.le_refl _) (xs (I + 1)) X M hR
  have hS := h8.2.2.1
  refine lv_aload_n hx hb dL_law_387 rfl (lv_at hl 2 rfl) ?_
  refine lw_arg 1 hx hb hX hbl hL hS hl hI (by decide) dL_law_388 dL_law_389 dL_law_390 rfl dL_law_391 dL_law_392 ?_
  refine o_calli (va_runV (As := [.int (xs (I + 1))]) (rest := []) ⟨hx, hb, hml, hown, hts⟩ (c_X8_truth l Z 1000 (xs (I + 1)) X r X1 f8) (cwV 1 hts gL_law_X8_truth rfl rfl rfl (by decide +kernel) ⟨(Nat.le_of_ble_eq_true rfl), (Nat.le_of_ble_eq_true rfl)⟩) (o_preV hG h8 ow_i0 (by decide) rfl) rfl rfl hl.1 rfl (lv_room (Nat.le_of_ble_eq_true rfl)) dL_law_393 ⟨(Nat.le_of_ble_eq_true rfl), (Nat.le_of_ble_eq_true rfl)⟩) h8 (fun H1 locs1 h8 hz hk => ?_)
  have h9 := h9.kept h8.2.2.1 hk (fun q h1 h2 => hd q h2 h1)
  have hS := h8.2.2.1
  refine lv_aload_n hx hb dL_law_396 rfl (lv_at hl 1 rfl) ?_
  refine lw_arg 1 hx hb hX hbl hL hS hl hI (by decide) dL_law_397 dL_law_398 dL_law_399 rfl dL_law_400 dL_law_401 ?_
  refine o_calli (va_runV (As := [.int (xs (I + 1))]) (rest := [.int r]) ⟨hx, hb, hml, hown, hts⟩ (c_X9_truth l Z 1000 (xs (I + 1)) M r M1 f9) (cwV 1 hts gL_law_X9_truth rfl rfl rfl (by decide +kernel) ⟨(Nat.le_of_ble_eq_true rfl), (Nat.le_of_ble_eq_true rfl)⟩) (o_preV hG h9 ow_i56 (by decide) rfl) rfl rfl hl.1 rfl (lv_room (Nat.le_of_ble_eq_true rfl)) dL_law_402 ⟨(Nat.le_of_ble_eq_true rfl), (Nat.le_of_ble_eq_true rfl)⟩) h9 (fun H2 locs2 h9 hz2 hk2 => ?_)
  have h8 := h8.kept h9.2.2.1 hk2 hd
  exact lv_icmp_eq (tgt := 1656) hx hb dL_law_405 (by decide) (fun _ => kk _ _ _ _ ⟨h8, h9, hR1⟩) (fun c => absurd rfl c)
theorem lw_c8 (l : Launch) (C : lw_C p s m c b L xs Z) (hI : I + 7 ≤ L) (hl : lv_has ls 4 (lw_lv Z b I)) (hW : lw_W Z X M s H locs) (kk : ∀ (X M : ow_S) (H : Heap) (locs : List Loc), lw_W Z X M s H locs → W p l e room_1 s m #[Value.ref b] below meth c H locs 76 4667 Q (F0 m 1656 ls [])) : W p l e room_1 s m #[Value.ref b] below meth c H locs 76 4667 Q (F0 m 410 ls []) := by
  obtain ⟨hx, hb, hml, hown, hts, hX, hbl, hG, hd, hL⟩ := C
  obtain ⟨h8, h9, hR⟩ := hW
  obtain ⟨r, X1, M1, f8, f9, hR1⟩ := o_two 1000 (Nat.le_refl _) (xs (I + 1)) X M hR
  have hS := h8.2.2.1
  refine lv_aload_n hx hb dL_law_410 rfl (lv_at hl 2 rfl) ?_
  refine lw_arg 1 hx hb hX hbl hL hS hl hI (by decide) dL_law_411 dL_law_412 dL_law_413 rfl dL_law_414 dL_law_415 ?_
  refine o_calli (va_runV (As := [.int (xs (I + 1))]) (rest := []) ⟨hx, hb, hml, hown, hts⟩ (c_X8_two l Z 1000 (xs (I + 1)) X r X1 f8) (cwV 1 hts gL_law_X8_two rfl rfl rfl (by decide +kernel) ⟨(Nat.le_of_ble_eq_true rfl), (Nat.le_of_ble_eq_true rfl)⟩) (o_preV hG h8 ow_i0 (by decide) rfl) rfl rfl hl.1 rfl (lv_room (Nat.le_of_ble_eq_true rfl)) dL_law_416 ⟨(Nat.le_of_ble_eq_true rfl), (Nat.le_of_ble_eq_true rfl)⟩) h8 (fun H1 locs1 h8 hz hk => ?_)
  have h9 := h9.kept h8.2.2.1 hk (fun q h1 h2 => hd q h2 h1)
  have hS := h8.2.2.1
  refine lv_aload_n hx hb dL_law_419 rfl (lv_at hl 1 rfl) ?_
  refine lw_arg 1 hx hb hX hbl hL hS hl hI (by decide) dL_law_420 dL_law_421 dL_law_422 rfl dL_law_423 dL_law_424 ?_
  refine o_calli (va_runV (As := [.int (xs (I + 1))]) (rest := [.int r]) ⟨hx, hb, hml, hown, hts⟩ (c_X9_two l Z 1000 (xs (I + 1)) M r M1 f9) (cwV 1 hts gL_law_X9_two rfl rfl rfl (by decide +kernel) ⟨(Nat.le_of_ble_eq_true rfl), (Nat.le_of_ble_eq_true rfl)⟩) (o_preV hG h9 ow_i56 (by decide) rfl) rfl rfl hl.1 rfl (lv_room (Nat.le_of_ble_eq_true rfl)) dL_law_425 ⟨(Nat.le_of_ble_eq_true rfl), (Nat.le_of_ble_eq_true rfl)⟩) h9 (fun H2 locs2 h9 hz2 hk2 => ?_)
  have h8 := h8.kept h9.2.2.1 hk2 hd
  exact lv_icmp_eq (tgt := 1656) hx hb dL_law_428 (by decide) (fun _ => kk _ _ _ _ ⟨h8, h9, hR1⟩) (fun c => absurd rfl c)
theorem lw_c9 (l : Launch) (C : lw_C p s m c b L xs Z) (hI : I + 7 ≤ L) (hl : lv_has ls 4 (lw_lv Z b I)) (hW : lw_W Z X M s H locs) (kk : ∀ (X M : ow_S) (H : Heap) (locs : List Loc), lw_W Z X M s H locs → W p l e room_1 s m #[Value.ref b] below meth c H locs 76 4667 Q (F0 m 1656 ls [])) : W p l e room_1 s m #[Value.ref b] below meth c H locs 76 4667 Q (F0 m 433 ls []) := by
  obtain ⟨hx, hb, hml, hown, hts, hX, hbl, hG, hd, hL⟩ := C
  obtain ⟨h8, h9, hR⟩ := hW
  obtain ⟨r, X1, M1, f8, f9, hR1⟩ := o_feed 1000 (Nat.le_refl _) (xs (I + 1)) (xs (I + 2)) (xs (I + 3)) (xs (I + 4)) (xs (I + 5)) (xs (I + 6)) X M hR
  have hS := h8.2.2.1
  refine lv_aload_n hx hb dL_law_433 rfl (lv_at hl 2 rfl) ?_
  refine lw_arg 1 hx hb hX hbl hL hS hl hI (by decide) dL_law_434 dL_law_435 dL_law_436 rfl dL_law_437 dL_law_438 ?_
  refine lw_arg 2 hx hb hX hbl hL hS hl hI (by decide) dL_law_439 dL_law_440 dL_law_441 rfl dL_law_442 dL_law_443 ?_
  refine lw_arg 3 hx hb hX hbl hL hS hl hI (by decide) dL_law_444 dL_law_445 dL_law_446 rfl dL_law_447 dL_law_448 ?_
  refine lw_arg 4 hx hb hX hbl hL hS hl hI (by decide) dL_law_449 dL_law_450 dL_law_451 rfl dL_law_452 dL_law_453 ?_
  refine lw_arg 5 hx hb hX hbl hL hS hl hI (by decide) dL_law_454 dL_law_455 dL_law_456 rfl dL_law_457 dL_law_458 ?_
  refine lw_argb 6 hx hb hX hbl hL hS hl hI (by decide) dL_law_459 dL_law_460 dL_law_461 rfl dL_law_463 dL_law_464 ?_
  refine o_calli (va_runV (As := [.int (xs (I + 1)), .int (xs (I + 2)), .int (xs (I + 3)), .int (xs (I + 4)), .int (xs (I + 5)), .int (xs (I + 6))]) (rest := []) ⟨hx, hb, hml, hown, hts⟩ (c_X8_feed l Z 1000 (xs (I + 1)) (xs (I + 2)) (xs (I + 3)) (xs (I + 4)) (xs (I + 5)) (xs (I + 6)) X r X1 f8) (cwV 6 hts gL_law_X8_feed rfl rfl rfl (by decide +kernel) ⟨(Nat.le_of_ble_eq_true rfl), (Nat.le_of_ble_eq_true rfl)⟩) (o_preV hG h8 ow_i0 (by decide) rfl) rfl rfl hl.1 rfl (lv_room (Nat.le_of_ble_eq_true rfl)) dL_law_465 ⟨(Nat.le_of_ble_eq_true rfl), (Nat.le_of_ble_eq_true rfl)⟩) h8 (fun H1 locs1 h8 hz hk => ?_)
  have h9 := h9.kept h8.2.2.1 hk (fun q h1 h2 => hd q h2 h1)
  have hS := h8.2.2.1
  refine lv_aload_n hx hb dL_law_468 rfl (lv_at hl 1 rfl) ?_
  refine lw_arg 1 hx hb hX hbl hL hS hl hI (by decide) dL_law_469 dL_law_470 dL_law_471 rfl dL_law_472 dL_law_473 ?_
  refine lw_arg 2 hx hb hX hbl hL hS hl hI (by decide) dL_law_474 dL_law_475 dL_law_476 rfl dL_law_477 dL_law_478 ?_
  refine lw_arg 3 hx hb hX hbl hL hS hl hI (by decide) dL_law_479 dL_law_480 dL_law_481 rfl dL_law_482 dL_law_483 ?_
  refine lw_arg 4 hx hb hX hbl hL hS hl hI (by decide) dL_law_484 dL_law_485 dL_law_486 rfl dL_law_487 dL_law_488 ?_
  refine lw_arg 5 hx hb hX hbl hL hS hl hI (by decide) dL_law_489 dL_law_490 dL_law_491 rfl dL_law_492 dL_law_493 ?_
  refine lw_argb 6 hx hb hX hbl hL hS hl hI (by decide) dL_law_494 dL_law_495 dL_law_496 rfl dL_law_498 dL_law_499 ?_
  refine o_calli (va_runV (As := [.int (xs (I + 1)), .int (xs (I + 2)), .int (xs (I + 3)), .int (xs (I + 4)), .int (xs (I + 5)), .int (xs (I + 6))]) (rest := [.int r]) ⟨hx, hb, hml, hown, hts⟩ (c_X9_feed l Z 1000 (xs (I + 1)) (xs (I + 2)) (xs (I + 3)) (xs (I + 4)) (xs (I + 5)) (xs (I + 6)) M r M1 f9) (cwV 6 hts gL_law_X9_feed rfl rfl rfl (by decide +kernel) ⟨(Nat.le_of_ble_eq_true rfl), (Nat.le_of_ble_eq_true rfl)⟩) (o_preV hG h9 ow_i56 (by decide) rfl) rfl rfl hl.1 rfl (lv_room (Nat.le_of_ble_eq_true rfl)) dL_law_500 ⟨(Nat.le_of_ble_eq_true rfl), (Nat.le_of_ble_eq_true rfl)⟩) h9 (fun H2 locs2 h9 hz2 hk2 => ?_)
  have h8 := h8.kept h9.2.2.1 hk2 hd
  exact lv_icmp_eq (tgt := 1656) hx hb dL_law_503 (by decide) (fun _ => kk _ _ _ _ ⟨h8, h9, hR1⟩) (fun c => absurd rfl c)
theorem lw_c10 (l : Launch) (C : lw_C p s m c b L xs Z) (hI : I + 7 ≤ L) (hl : lv_has ls 4 (lw_lv Z b I)) (hW : lw_W Z X M s H locs) (kk : ∀ (X M : ow_S) (H : Heap) (locs : List Loc), lw_W Z X M s H locs → W p l e room_1 s m #[Value.ref b] below meth c H locs 76 4667 Q (F0 m 1656 ls [])) : W p l e room_1 s m #[Value.ref b] below meth c H locs 76 4667 Q (F0 m 508 ls []) := by
  obtain ⟨hx, hb, hml, hown, hts, hX, hbl, hG, hd, hL⟩ := C
  obtain ⟨h8, h9, hR⟩ := hW
  obtain ⟨r, X1, M1, f8, f9, hR1⟩ := o_text 1000 (Nat.le_refl _) X M hR
  have hS := h8.2.2.1
  refine lv_aload_n hx hb dL_law_508 rfl (lv_at hl 2 rfl) ?_
  refine o_calli (va_runV (As := []) (rest := []) ⟨hx, hb, hml, hown, hts⟩ (c_X8_text l Z 1000 X r X1 f8) (cwV 0 hts gL_law_X8_text rfl rfl rfl (by decide +kernel) ⟨(Nat.le_of_ble_eq_true rfl), (Nat.le_of_ble_eq_true rfl)⟩) (o_preV hG h8 ow_i0 (by decide) rfl) rfl rfl hl.1 rfl (lv_room (Nat.le_of_ble_eq_true rfl)) dL_law_509 ⟨(Nat.le_of_ble_eq_true rfl), (Nat.le_of_ble_eq_true rfl)⟩) h8 (fun H1 locs1 h8 hz hk => ?_)
  have h9 := h9.kept h8.2.2.1 hk (fun q h1 h2 => hd q h2 h1)
  have hS := h8.2.2.1
  refine lv_aload_n hx hb dL_law_512 rfl (lv_at hl 1 rfl) ?_
  refine o_calli (va_runV (As := []) (rest := [.int r]) ⟨hx, hb, hml, hown, hts⟩ (c_X9_text l Z 1000 M r M1 f9) (cwV 0 hts gL_law_X9_text rfl rfl rfl (by decide +kernel) ⟨(Nat.le_of_ble_eq_true rfl), (Nat.le_of_ble_eq_true rfl)⟩) (o_preV hG h9 ow_i56 (by decide) rfl) rfl rfl hl.1 rfl (lv_room (Nat.le_of_ble_eq_true rfl)) dL_law_513 ⟨(Nat.le_of_ble_eq_true rfl), (Nat.le_of_ble_eq_true rfl)⟩) h9 (fun H2 locs2 h9 hz2 hk2 => ?_)
  have h8 := h8.kept h9.2.2.1 hk2 hd
  exact lv_icmp_eq (tgt := 1656) hx hb dL_law_516 (by decide) (fun _ => kk _ _ _ _ ⟨h8, h9, hR1⟩) (fun c => absurd rfl c)
theorem lw_c11 (l : Launch) (C : lw_C p s m c b L xs Z) (hI : I + 7 ≤ L) (hl : lv_has ls 4 (lw_lv Z b I)) (hW : lw_W Z X M s H locs) (kk : ∀ (X M : ow_S) (H : Heap) (locs : List Loc), lw_W Z X M s H locs → W p l e room_1 s m #[Value.ref b] below meth c H locs 76 4667 Q (F0 m 1656 ls [])) : W p l e room_1 s m #[Value.ref b] below meth c H locs 76 4667 Q (F0 m 521 ls []) := by
  obtain ⟨hx, hb, hml, hown, hts, hX, hbl, hG, hd, hL⟩ := C
  obtain ⟨h8, h9, hR⟩ := hW
  obtain ⟨r, X1, M1, f8, f9, hR1⟩ := o_force 1000 (xs (I + 1)) X M hR
  have hS := h8.2.2.1
  refine lv_aload_n hx hb dL_law_521 rfl (lv_at hl 2 rfl) ?_
  refine lw_arg 1 hx hb hX hbl hL hS hl hI (by decide) dL_law_522 dL_law_523 dL_law_524 rfl dL_law_525 dL_law_526 ?_
  refine o_calli (va_runV (As := [.int (xs (I + 1))]) (rest := []) ⟨hx, hb, hml, hown, hts⟩ (c_X8_force l Z 1000 (xs (I + 1)) X r X1 f8) (cwV 1 hts gL_law_X8_force rfl rfl rfl (by decide +kernel) ⟨(Nat.le_of_ble_eq_true rfl), (Nat.le_of_ble_eq_true rfl)⟩) (o_preV hG h8 ow_i0 (by decide) rfl) rfl rfl hl.1 rfl (lv_room (Nat.le_of_ble_eq_true rfl)) dL_law_527 ⟨(Nat.le_of_ble_eq_true rfl), (Nat.le_of_ble_eq_true rfl)⟩) h8 (fun H1 locs1 h8 hz hk => ?_)
  have h9 := h9.kept h8.2.2.1 hk (fun q h1 h2 => hd q h2 h1)
  have hS := h8.2.2.1
  refine lv_aload_n hx hb dL_law_530 rfl (lv_at hl 1 rfl) ?_
  refine lw_arg 1 hx hb hX hbl hL hS hl hI (by decide) dL_law_531 dL_law_532 dL_law_533 rfl dL_law_534 dL_law_535 ?_
  refine o_calli (va_runV (As := [.int (xs (I + 1))]) (rest := [.int r]) ⟨hx, hb, hml, hown, hts⟩ (c_X9_force l Z 1000 (xs (I + 1)) M r M1 f9) (cwV 1 hts gL_law_X9_force rfl rfl rfl (by decide +kernel) ⟨(Nat.le_of_ble_eq_true rfl), (Nat.le_of_ble_eq_true rfl)⟩) (o_preV hG h9 ow_i56 (by decide) rfl) rfl rfl hl.1 rfl (lv_room (Nat.le_of_ble_eq_true rfl)) dL_law_536 ⟨(Nat.le_of_ble_eq_true rfl), (Nat.le_of_ble_eq_true rfl)⟩) h9 (fun H2 locs2 h9 hz2 hk2 => ?_)
  have h8 := h8.kept h9.2.2.1 hk2 hd
  exact lv_icmp_eq (tgt := 1656) hx hb dL_law_539 (by decide) (fun _ => kk _ _ _ _ ⟨h8, h9, hR1⟩) (fun c => absurd rfl c)
theorem lw_c12 (l : Launch) (C : lw_C p s m c b L xs Z) (hI : I + 7 ≤ L) (hl : lv_has ls 4 (lw_lv Z b I)) (hW : lw_W Z X M s H locs) (kk : ∀ (X M : ow_S) (H : Heap) (locs : List Loc), lw_W Z X M s H locs → W p l e room_1 s m #[Value.ref b] below meth c H locs 76 4667 Q (F0 m 1656 ls [])) : W p l e room_1 s m #[Value.ref b] below meth c H locs 76 4667 Q (F0 m 544 ls []) := by
  obtain ⟨hx, hb, hml, hown, hts, hX, hbl, hG, hd, hL⟩ := C
  obtain ⟨h8, h9, hR⟩ := hW
  obtain ⟨r, X1, M1, f8, f9, hR1⟩ := o_asks 1000 (Nat.le_refl _) (xs (I + 1)) (xs (I + 2)) (xs (I + 3)) (xs (I + 4)) X M hR
  have hS := h8.2.2.1
  refine lv_aload_n hx hb dL_law_544 rfl (lv_at hl 2 rfl) ?_
  refine lw_arg 1 hx hb hX hbl hL hS hl hI (by decide) dL_law_545 dL_law_546 dL_law_547 rfl dL_law_548 dL_law_549 ?_
  refine lw_arg 2 hx hb hX hbl hL hS hl hI (by decide) dL_law_550 dL_law_551 dL_law_552 rfl dL_law_553 dL_law_554 ?_
  refine lw_arg 3 hx hb hX hbl hL hS hl hI (by decide) dL_law_555 dL_law_556 dL_law_557 rfl dL_law_558 dL_law_559 ?_
  refine lw_arg 4 hx hb hX hbl hL hS hl hI (by decide) dL_law_560 dL_law_561 dL_law_562 rfl dL_law_563 dL_law_564 ?_
  refine o_calli (va_runV (As := [.int (xs (I + 1)), .int (xs (I + 2)), .int (xs (I + 3)), .int (xs (I + 4))]) (rest := []) ⟨hx, hb, hml, hown, hts⟩ (c_X8_asks l Z 1000 (xs (I + 1)) (xs (I + 2)) (xs (I + 3)) (xs (I + 4)) X r X1 f8) (cwV 4 hts gL_law_X8_asks rfl rfl rfl (by decide +kernel) ⟨(Nat.le_of_ble_eq_true rfl), (Nat.le_of_ble_eq_true rfl)⟩) (o_preV hG h8 ow_i0 (by decide) rfl) rfl rfl hl.1 rfl (lv_room (Nat.le_of_ble_eq_true rfl)) dL_law_565 ⟨(Nat.le_of_ble_eq_true rfl), (Nat.le_of_ble_eq_true rfl)⟩) h8 (fun H1 locs1 h8 hz hk => ?_)
  have h9 := h9.kept h8.2.2.1 hk (fun q h1 h2 => hd q h2 h1)
  have hS := h8.2.2.1
  refine lv_aload_n hx hb dL_law_568 rfl (lv_at hl 1 rfl) ?_
  refine lw_arg 1 hx hb hX hbl hL hS hl hI (by decide) dL_law_569 dL_law_570 dL_law_571 rfl dL_law_572 dL_law_573 ?_
  refine lw_arg 2 hx hb hX hbl hL hS hl hI (by decide) dL_law_574 dL_law_575 dL_law_576 rfl dL_law_577 dL_law_578 ?_
  refine lw_arg 3 hx hb hX hbl hL hS hl hI (by decide) dL_law_579 dL_law_580 dL_law_581 rfl dL_law_582 dL_law_583 ?_
  refine lw_arg 4 hx hb hX hbl hL hS hl hI (by decide) dL_law_584 dL_law_585 dL_law_586 rfl dL_law_587 dL_law_588 ?_
  refine o_calli (va_runV (As := [.int (xs (I + 1)), .int (xs (I + 2)), .int (xs (I + 3)), .int (xs (I + 4))]) (rest := [.int r]) ⟨hx, hb, hml, hown, hts⟩ (c_X9_asks l Z 1000 (xs (I + 1)) (xs (I + 2)) (xs (I + 3)) (xs (I + 4)) M r M1 f9) (cwV 4 hts gL_law_X9_asks rfl rfl rfl (by decide +kernel) ⟨(Nat.le_of_ble_eq_true rfl), (Nat.le_of_ble_eq_true rfl)⟩) (o_preV hG h9 ow_i56 (by decide) rfl) rfl rfl hl.1 rfl (lv_room (Nat.le_of_ble_eq_true rfl)) dL_law_589 ⟨(Nat.le_of_ble_eq_true rfl), (Nat.le_of_ble_eq_true rfl)⟩) h9 (fun H2 locs2 h9 hz2 hk2 => ?_)
  have h8 := h8.kept h9.2.2.1 hk2 hd
  exact lv_icmp_eq (tgt := 1656) hx hb dL_law_592 (by decide) (fun _ => kk _ _ _ _ ⟨h8, h9, hR1⟩) (fun c => absurd rfl c)
theorem lw_c13 (l : Launch) (C : lw_C p s m c b L xs Z) (hI : I + 7 ≤ L) (hl : lv_has ls 4 (lw_lv Z b I)) (hW : lw_W Z X M s H locs) (kk : ∀ (X M : ow_S) (H : Heap) (locs : List Loc), lw_W Z X M s H locs → W p l e room_1 s m #[Value.ref b] below meth c H locs 76 4667 Q (F0 m 1656 ls [])) : W p l e room_1 s m #[Value.ref b] below meth c H locs 76 4667 Q (F0 m 597 ls []) := by
  obtain ⟨hx, hb, hml, hown, hts, hX, hbl, hG, hd, hL⟩ := C
  obtain ⟨h8, h9, hR⟩ := hW
  obtain ⟨r, X1, M1, f8, f9, hR1⟩ := o_head 1000 (xs (I + 1)) (xs (I + 2)) (xs (I + 3)) X M hR
  have hS := h8.2.2.1
  refine lv_aload_n hx hb dL_law_597 rfl (lv_at hl 2 rfl) ?_
  refine lw_arg 1 hx hb hX hbl hL hS hl hI (by decide) dL_law_598 dL_law_599 dL_law_600 rfl dL_law_601 dL_law_602 ?_
  refine lw_arg 2 hx hb hX hbl hL hS hl hI (by decide) dL_law_603 dL_law_604 dL_law_605 rfl dL_law_606 dL_law_607 ?_
  refine lw_arg 3 hx hb hX hbl hL hS hl hI (by decide) dL_law_608 dL_law_609 dL_law_610 rfl dL_law_611 dL_law_612 ?_
  refine o_calli (va_runV (As := [.int (xs (I + 1)), .int (xs (I + 2)), .int (xs (I + 3))]) (rest := []) ⟨hx, hb, hml, hown, hts⟩ (c_X8_head l Z 1000 (xs (I + 1)) (xs (I + 2)) (xs (I + 3)) X r X1 f8) (cwV 3 hts gL_law_X8_head rfl rfl rfl (by decide +kernel) ⟨(Nat.le_of_ble_eq_true rfl), (Nat.le_of_ble_eq_true rfl)⟩) (o_preV hG h8 ow_i0 (by decide) rfl) rfl rfl hl.1 rfl (lv_room (Nat.le_of_ble_eq_true rfl)) dL_law_613 ⟨(Nat.le_of_ble_eq_true rfl), (Nat.le_of_ble_eq_true rfl)⟩) h8 (fun H1 locs1 h8 hz hk => ?_)
  have h9 := h9.kept h8.2.2.1 hk (fun q h1 h2 => hd q h2 h1)
  have hS := h8.2.2.1
  refine lv_aload_n hx hb dL_law_616 rfl (lv_at hl 1 rfl) ?_
  refine lw_arg 1 hx hb hX hbl hL hS hl hI (by decide) dL_law_617 dL_law_618 dL_law_619 rfl dL_law_620 dL_law_621 ?_
  refine lw_arg 2 hx hb hX hbl hL hS hl hI (by decide) dL_law_622 dL_law_623 dL_law_624 rfl dL_law_625 dL_law_626 ?_
  refine lw_arg 3 hx hb hX hbl hL hS hl hI (by decide) dL_law_627 dL_law_628 dL_law_629 rfl dL_law_630 dL_law_631 ?_
  refine o_calli (va_runV (As := [.int (xs (I + 1)), .int (xs (I + 2)), .int (xs (I + 3))]) (rest := [.int r]) ⟨hx, hb, hml, hown, hts⟩ (c_X9_head l Z 1000 (xs (I + 1)) (xs (I + 2)) (xs (I + 3)) M r M1 f9) (cwV 3 hts gL_law_X9_head rfl rfl rfl (by decide +kernel) ⟨(Nat.le_of_ble_eq_true rfl), (Nat.le_of_ble_eq_true rfl)⟩) (o_preV hG h9 ow_i56 (by decide) rfl) rfl rfl hl.1 rfl (lv_room (Nat.le_of_ble_eq_true rfl)) dL_law_632 ⟨(Nat.le_of_ble_eq_true rfl), (Nat.le_of_ble_eq_true rfl)⟩) h9 (fun H2 locs2 h9 hz2 hk2 => ?_)
  have h8 := h8.kept h9.2.2.1 hk2 hd
  exact lv_icmp_eq (tgt := 1656) hx hb dL_law_635 (by decide) (fun _ => kk _ _ _ _ ⟨h8, h9, hR1⟩) (fun c => absurd rfl c)
theorem lw_c14 (l : Launch) (C : lw_C p s m c b L xs Z) (hI : I + 7 ≤ L) (hl : lv_has ls 4 (lw_lv Z b I)) (hW : lw_W Z X M s H locs) (kk : ∀ (X M : ow_S) (H : Heap) (locs : List Loc), lw_W Z X M s H locs → W p l e room_1 s m #[Value.ref b] below meth c H locs 76 4667 Q (F0 m 1656 ls [])) : W p l e room_1 s m #[Value.ref b] below meth c H locs 76 4667 Q (F0 m 640 ls []) := by
  obtain ⟨hx, hb, hml, hown, hts, hX, hbl, hG, hd, hL⟩ := C
  obtain ⟨h8, h9, hR⟩ := hW
  obtain ⟨r, X1, M1, f8, f9, hR1⟩ := o_set 1000 (xs (I + 1)) (xs (I + 2)) (xs (I + 3)) X M hR
  have hS := h8.2.2.1
  refine lv_aload_n hx hb dL_law_640 rfl (lv_at hl 2 rfl) ?_
  refine lw_arg 1 hx hb hX hbl hL hS hl hI (by decide) dL_law_641 dL_law_642 dL_law_643 rfl dL_law_644 dL_law_645 ?_
  refine lw_arg 2 hx hb hX hbl hL hS hl hI (by decide) dL_law_646 dL_law_647 dL_law_648 rfl dL_law_649 dL_law_650 ?_
  refine lw_arg 3 hx hb hX hbl hL hS hl hI (by decide) dL_law_651 dL_law_652 dL_law_653 rfl dL_law_654 dL_law_655 ?_
  refine o_calli (va_runV (As := [.int (xs (I + 1)), .int (xs (I + 2)), .int (xs (I + 3))]) (rest := []) ⟨hx, hb, hml, hown, hts⟩ (c_X8_set l Z 1000 (xs (I + 1)) (xs (I + 2)) (xs (I + 3)) X r X1 f8) (cwV 3 hts gL_law_X8_set rfl rfl rfl (by decide +kernel) ⟨(Nat.le_of_ble_eq_true rfl), (Nat.le_of_ble_eq_true rfl)⟩) (o_preV hG h8 ow_i0 (by decide) rfl) rfl rfl hl.1 rfl (lv_room (Nat.le_of_ble_eq_true rfl)) dL_law_656 ⟨(Nat.le_of_ble_eq_true rfl), (Nat.le_of_ble_eq_true rfl)⟩) h8 (fun H1 locs1 h8 hz hk => ?_)
  have h9 := h9.kept h8.2.2.1 hk (fun q h1 h2 => hd q h2 h1)
  have hS := h8.2.2.1
  refine lv_aload_n hx hb dL_law_659 rfl (lv_at hl 1 rfl) ?_
  refine lw_arg 1 hx hb hX hbl hL hS hl hI (by decide) dL_law_660 dL_law_661 dL_law_662 rfl dL_law_663 dL_law_664 ?_
  refine lw_arg 2 hx hb hX hbl hL hS hl hI (by decide) dL_law_665 dL_law_666 dL_law_667 rfl dL_law_668 dL_law_669 ?_
  refine lw_arg 3 hx hb hX hbl hL hS hl hI (by decide) dL_law_670 dL_law_671 dL_law_672 rfl dL_law_673 dL_law_674 ?_
  refine o_calli (va_runV (As := [.int (xs (I + 1)), .int (xs (I + 2)), .int (xs (I + 3))]) (rest := [.int r]) ⟨hx, hb, hml, hown, hts⟩ (c_X9_set l Z 1000 (xs (I + 1)) (xs (I + 2)) (xs (I + 3)) M r M1 f9) (cwV 3 hts gL_law_X9_set rfl rfl rfl (by decide +kernel) ⟨(Nat.le_of_ble_eq_true rfl), (Nat.le_of_ble_eq_true rfl)⟩) (o_preV hG h9 ow_i56 (by decide) rfl) rfl rfl hl.1 rfl (lv_room (Nat.le_of_ble_eq_true rfl)) dL_law_675 ⟨(Nat.le_of_ble_eq_true rfl), (Nat.le_of_ble_eq_true rfl)⟩) h9 (fun H2 locs2 h9 hz2 hk2 => ?_)
  have h8 := h8.kept h9.2.2.1 hk2 hd
  exact lv_icmp_eq (tgt := 1656) hx hb dL_law_678 (by decide) (fun _ => kk _ _ _ _ ⟨h8, h9, hR1⟩) (fun c => absurd rfl c)
theorem lw_c15 (l : Launch) (C : lw_C p s m c b L xs Z) (hI : I + 7 ≤ L) (hl : lv_has ls 4 (lw_lv Z b I)) (hW : lw_W Z X M s H locs) (kk : ∀ (X M : ow_S) (H : Heap) (locs : List Loc), lw_W Z X M s H locs → W p l e room_1 s m #[Value.ref b] below meth c H locs 76 4667 Q (F0 m 1656 ls [])) : W p l e room_1 s m #[Value.ref b] below meth c H locs 76 4667 Q (F0 m 683 ls []) := by
  obtain ⟨hx, hb, hml, hown, hts, hX, hbl, hG, hd, hL⟩ := C
  obtain ⟨h8, h9, hR⟩ := hW
  obtain ⟨r, X1, M1, f8, f9, hR1⟩ := o_told 1000 (xs (I + 1)) (xs (I + 2)) X M hR
  have hS := h8.2.2.1
  refine lv_aload_n hx hb dL_law_683 rfl (lv_at hl 2 rfl) ?_
  refine lw_arg 1 hx hb hX hbl hL hS hl hI (by decide) dL_law_684 dL_law_685 dL_law_686 rfl dL_law_687 dL_law_688 ?_
  refine lw_arg 2 hx hb hX hbl hL hS hl hI (by decide) dL_law_689 dL_law_690 dL_law_691 rfl dL_law_692 dL_law_693 ?_
  refine o_calli (va_runV (As := [.int (xs (I + 1)), .int (xs (I + 2))]) (rest := []) ⟨hx, hb, hml, hown, hts⟩ (c_X8_told l Z 1000 (xs (I + 1)) (xs (I + 2)) X r X1 f8) (cwV 2 hts gL_law_X8_told rfl rfl rfl (by decide +kernel) ⟨(Nat.le_of_ble_eq_true rfl), (Nat.le_of_ble_eq_true rfl)⟩) (o_preV hG h8 ow_i0 (by decide) rfl) rfl rfl hl.1 rfl (lv_room (Nat.le_of_ble_eq_true rfl)) dL_law_694 ⟨(Nat.le_of_ble_eq_true rfl), (Nat.le_of_ble_eq_true rfl)⟩) h8 (fun H1 locs1 h8 hz hk => ?_)
  have h9 := h9.kept h8.2.2.1 hk (fun q h1 h2 => hd q h2 h1)
  have hS := h8.2.2.1
  refine lv_aload_n hx hb dL_law_697 rfl (lv_at hl 1 rfl) ?_
  refine lw_arg 1 hx hb hX hbl hL hS hl hI (by decide) dL_law_698 dL_law_699 dL_law_700 rfl dL_law_701 dL_law_702 ?_
  refine lw_arg 2 hx hb hX hbl hL hS hl hI (by decide) dL_law_703 dL_law_704 dL_law_705 rfl dL_law_706 dL_law_707 ?_
  refine o_calli (va_runV (As := [.int (xs (I + 1)), .int (xs (I + 2))]) (rest := [.int r]) ⟨hx, hb, hml, hown, hts⟩ (c_X9_told l Z 1000 (xs (I + 1)) (xs (I + 2)) M r M1 f9) (cwV 2 hts gL_law_X9_told rfl rfl rfl (by decide +kernel) ⟨(Nat.le_of_ble_eq_true rfl), (Nat.le_of_ble_eq_true rfl)⟩) (o_preV hG h9 ow_i56 (by decide) rfl) rfl rfl hl.1 rfl (lv_room (Nat.le_of_ble_eq_true rfl)) dL_law_708 ⟨(Nat.le_of_ble_eq_true rfl), (Nat.le_of_ble_eq_true rfl)⟩) h9 (fun H2 locs2 h9 hz2 hk2 => ?_)
  have h8 := h8.kept h9.2.2.1 hk2 hd
  exact lv_icmp_eq (tgt := 1656) hx hb dL_law_711 (by decide) (fun _ => kk _ _ _ _ ⟨h8, h9, hR1⟩) (fun c => absurd rfl c)
theorem lw_c16 (l : Launch) (C : lw_C p s m c b L xs Z) (hI : I + 7 ≤ L) (hl : lv_has ls 4 (lw_lv Z b I)) (hW : lw_W Z X M s H locs) (kk : ∀ (X M : ow_S) (H : Heap) (locs : List Loc), lw_W Z X M s H locs → W p l e room_1 s m #[Value.ref b] below meth c H locs 76 4667 Q (F0 m 1656 ls [])) : W p l e room_1 s m #[Value.ref b] below meth c H locs 76 4667 Q (F0 m 716 ls []) := by
  obtain ⟨hx, hb, hml, hown, hts, hX, hbl, hG, hd, hL⟩ := C
  obtain ⟨h8, h9, hR⟩ := hW
  obtain ⟨r, X1, M1, f8, f9, hR1⟩ := o_say 1000 (Nat.le_refl _) (xs (I + 1)) X M hR
  have hS := h8.2.2.1
  refine lv_aload_n hx hb dL_law_716 rfl (lv_at hl 2 rfl) ?_
  refine lw_arg 1 hx hb hX hbl hL hS hl hI (by decide) dL_law_717 dL_law_718 dL_law_719 rfl dL_law_720 dL_law_721 ?_
  refine o_calli (va_runV (As := [.int (xs (I + 1))]) (rest := []) ⟨hx, hb, hml, hown, hts⟩ (c_X8_say l Z 1000 (xs (I + 1)) X r X1 f8) (cwV 1 hts gL_law_X8_say rfl rfl rfl (by decide +kernel) ⟨(Nat.le_of_ble_eq_true rfl), (Nat.le_of_ble_eq_true rfl)⟩) (o_preV hG h8 ow_i0 (by decide) rfl) rfl rfl hl.1 rfl (lv_room (Nat.le_of_ble_eq_true rfl)) dL_law_722 ⟨(Nat.le_of_ble_eq_true rfl), (Nat.le_of_ble_eq_true rfl)⟩) h8 (fun H1 locs1 h8 hz hk => ?_)
  have h9 := h9.kept h8.2.2.1 hk (fun q h1 h2 => hd q h2 h1)
  have hS := h8.2.2.1
  refine lv_aload_n hx hb dL_law_725 rfl (lv_at hl 1 rfl) ?_
  refine lw_arg 1 hx hb hX hbl hL hS hl hI (by decide) dL_law_726 dL_law_727 dL_law_728 rfl dL_law_729 dL_law_730 ?_
  refine o_calli (va_runV (As := [.int (xs (I + 1))]) (rest := [.int r]) ⟨hx, hb, hml, hown, hts⟩ (c_X9_say l Z 1000 (xs (I + 1)) M r M1 f9) (cwV 1 hts gL_law_X9_say rfl rfl rfl (by decide +kernel) ⟨(Nat.le_of_ble_eq_true rfl), (Nat.le_of_ble_eq_true rfl)⟩) (o_preV hG h9 ow_i56 (by decide) rfl) rfl rfl hl.1 rfl (lv_room (Nat.le_of_ble_eq_true rfl)) dL_law_731 ⟨(Nat.le_of_ble_eq_true rfl), (Nat.le_of_ble_eq_true rfl)⟩) h9 (fun H2 locs2 h9 hz2 hk2 => ?_)
  have h8 := h8.kept h9.2.2.1 hk2 hd
  exact lv_icmp_eq (tgt := 1656) hx hb dL_law_734 (by decide) (fun _ => kk _ _ _ _ ⟨h8, h9, hR1⟩) (fun c => absurd rfl c)
theorem lw_c17 (l : Launch) (C : lw_C p s m c b L xs Z) (hI : I + 7 ≤ L) (hl : lv_has ls 4 (lw_lv Z b I)) (hW : lw_W Z X M s H locs) (kk : ∀ (X M : ow_S) (H : Heap) (locs : List Loc), lw_W Z X M s H locs → W p l e room_1 s m #[Value.ref b] below meth c H locs 76 4667 Q (F0 m 1656 ls [])) : W p l e room_1 s m #[Value.ref b] below meth c H locs 76 4667 Q (F0 m 739 ls []) := by
  obtain ⟨hx, hb, hml, hown, hts, hX, hbl, hG, hd, hL⟩ := C
  obtain ⟨h8, h9, hR⟩ := hW
  obtain ⟨r, X1, M1, f8, f9, hR1⟩ := o_keep 1000 (Nat.le_refl _) (xs (I + 1)) (xs (I + 2)) (xs (I + 3)) X M hR
  have hS := h8.2.2.1
  refine lv_aload_n hx hb dL_law_739 rfl (lv_at hl 2 rfl) ?_
  refine lw_arg 1 hx hb hX hbl hL hS hl hI (by decide) dL_law_740 dL_law_741 dL_law_742 rfl dL_law_743 dL_law_744 ?_
  refine lw_arg 2 hx hb hX hbl hL hS hl hI (by decide) dL_law_745 dL_law_746 dL_law_747 rfl dL_law_748 dL_law_749 ?_
  refine lw_arg 3 hx hb hX hbl hL hS hl hI (by decide) dL_law_750 dL_law_751 dL_law_752 rfl dL_law_753 dL_law_754 ?_
  refine o_calli (va_runV (As := [.int (xs (I + 1)), .int (xs (I + 2)), .int (xs (I + 3))]) (rest := []) ⟨hx, hb, hml, hown, hts⟩ (c_X8_keep l Z 1000 (xs (I + 1)) (xs (I + 2)) (xs (I + 3)) X r X1 f8) (cwV 3 hts gL_law_X8_keep rfl rfl rfl (by decide +kernel) ⟨(Nat.le_of_ble_eq_true rfl), (Nat.le_of_ble_eq_true rfl)⟩) (o_preV hG h8 ow_i0 (by decide) rfl) rfl rfl hl.1 rfl (lv_room (Nat.le_of_ble_eq_true rfl)) dL_law_755 ⟨(Nat.le_of_ble_eq_true rfl), (Nat.le_of_ble_eq_true rfl)⟩) h8 (fun H1 locs1 h8 hz hk => ?_)
  have h9 := h9.kept h8.2.2.1 hk (fun q h1 h2 => hd q h2 h1)
  have hS := h8.2.2.1
  refine lv_aload_n hx hb dL_law_758 rfl (lv_at hl 1 rfl) ?_
  refine lw_arg 1 hx hb hX hbl hL hS hl hI (by decide) dL_law_759 dL_law_760 dL_law_761 rfl dL_law_762 dL_law_763 ?_
  refine lw_arg 2 hx hb hX hbl hL hS hl hI (by decide) dL_law_764 dL_law_765 dL_law_766 rfl dL_law_767 dL_law_768 ?_
  refine lw_arg 3 hx hb hX hbl hL hS hl hI (by decide) dL_law_769 dL_law_770 dL_law_771 rfl dL_law_772 dL_law_773 ?_
  refine o_calli (va_runV (As := [.int (xs (I + 1)), .int (xs (I + 2)), .int (xs (I + 3))]) (rest := [.int r]) ⟨hx, hb, hml, hown, hts⟩ (c_X9_keep l Z 1000 (xs (I + 1)) (xs (I + 2)) (xs (I + 3)) M r M1 f9) (cwV 3 hts gL_law_X9_keep rfl rfl rfl (by decide +kernel) ⟨(Nat.le_of_ble_eq_true rfl), (Nat.le_of_ble_eq_true rfl)⟩) (o_preV hG h9 ow_i56 (by decide) rfl) rfl rfl hl.1 rfl (lv_room (Nat.le_of_ble_eq_true rfl)) dL_law_774 ⟨(Nat.le_of_ble_eq_true rfl), (Nat.le_of_ble_eq_true rfl)⟩) h9 (fun H2 locs2 h9 hz2 hk2 => ?_)
  have h8 := h8.kept h9.2.2.1 hk2 hd
  exact lv_icmp_eq (tgt := 1656) hx hb dL_law_777 (by decide) (fun _ => kk _ _ _ _ ⟨h8, h9, hR1⟩) (fun c => absurd rfl c)
theorem lw_c18 (l : Launch) (C : lw_C p s m c b L xs Z) (hI : I + 7 ≤ L) (hl : lv_has ls 4 (lw_lv Z b I)) (hW : lw_W Z X M s H locs) (kk : ∀ (X M : ow_S) (H : Heap) (locs : List Loc), lw_W Z X M s H locs → W p l e room_1 s m #[Value.ref b] below meth c H locs 76 4667 Q (F0 m 1656 ls [])) : W p l e room_1 s m #[Value.ref b] below meth c H locs 76 4667 Q (F0 m 782 ls []) := by
  obtain ⟨hx, hb, hml, hown, hts, hX, hbl, hG, hd, hL⟩ := C
  obtain ⟨h8, h9, hR⟩ := hW
  obtain ⟨r, X1, M1, f8, f9, hR1⟩ := o_right 1000 (Nat.le_refl _) (xs (I + 1)) (xs (I + 2)) X M hR
  have hS := h8.2.2.1
  refine lv_aload_n hx hb dL_law_782 rfl (lv_at hl 2 rfl) ?_
  refine lw_arg 1 hx hb hX hbl hL hS hl hI (by decide) dL_law_783 dL_law_784 dL_law_785 rfl dL_law_786 dL_law_787 ?_
  refine lw_arg 2 hx hb hX hbl hL hS hl hI (by decide) dL_law_788 dL_law_789 dL_law_790 rfl dL_law_791 dL_law_792 ?_
  refine o_calll (va_runV (As := [.int (xs (I + 1)), .int (xs (I + 2))]) (rest := []) ⟨hx, hb, hml, hown, hts⟩ (c_X8_right l Z 1000 (xs (I + 1)) (xs (I + 2)) X r X1 f8) (cwV 2 hts gL_law_X8_right rfl rfl rfl (by decide +kernel) ⟨(Nat.le_of_ble_eq_true rfl), (Nat.le_of_ble_eq_true rfl)⟩) (o_preV hG h8 ow_i0 (by decide) rfl) rfl rfl hl.1 rfl (lv_room (Nat.le_of_ble_eq_true rfl)) dL_law_793 ⟨(Nat.le_of_ble_eq_true rfl), (Nat.le_of_ble_eq_true rfl)⟩) h8 (fun H1 locs1 h8 hz hk => ?_)
  have h9 := h9.kept h8.2.2.1 hk (fun q h1 h2 => hd q h2 h1)
  have hS := h8.2.2.1
  refine lv_aload_n hx hb dL_law_796 rfl (lv_at hl 1 rfl) ?_
  refine lw_arg 1 hx hb hX hbl hL hS hl hI (by decide) dL_law_797 dL_law_798 dL_law_799 rfl dL_law_800 dL_law_801 ?_
  refine lw_arg 2 hx hb hX hbl hL hS hl hI (by decide) dL_law_802 dL_law_803 dL_law_804 rfl dL_law_805 dL_law_806 ?_
  refine o_calll (va_runV (As := [.int (xs (I + 1)), .int (xs (I + 2))]) (rest := [.long r]) ⟨hx, hb, hml, hown, hts⟩ (c_X9_right l Z 1000 (xs (I + 1)) (xs (I + 2)) M r M1 f9) (cwV 2 hts gL_law_X9_right rfl rfl rfl (by decide +kernel) ⟨(Nat.le_of_ble_eq_true rfl), (Nat.le_of_ble_eq_true rfl)⟩) (o_preV hG h9 ow_i56 (by decide) rfl) rfl rfl hl.1 rfl (lv_room (Nat.le_of_ble_eq_true rfl)) dL_law_807 ⟨(Nat.le_of_ble_eq_true rfl), (Nat.le_of_ble_eq_true rfl)⟩) h9 (fun H2 locs2 h9 hz2 hk2 => ?_)
  have h8 := h8.kept h9.2.2.1 hk2 hd
  refine W.lcmp hx hb dL_law_810 ?_
  rw [lg_cmp_same]
  exact lv_if_eq (tgt := 1656) hx hb dL_law_811 (by decide) (fun _ => kk _ _ _ _ ⟨h8, h9, hR1⟩) (fun c => absurd rfl c)
theorem lw_c19 (l : Launch) (C : lw_C p s m c b L xs Z) (hI : I + 7 ≤ L) (hl : lv_has ls 4 (lw_lv Z b I)) (hW : lw_W Z X M s H locs) (kk : ∀ (X M : ow_S) (H : Heap) (locs : List Loc), lw_W Z X M s H locs → W p l e room_1 s m #[Value.ref b] below meth c H locs 76 4667 Q (F0 m 1656 ls [])) : W p l e room_1 s m #[Value.ref b] below meth c H locs 76 4667 Q (F0 m 816 ls []) := by
  obtain ⟨hx, hb, hml, hown, hts, hX, hbl, hG, hd, hL⟩ := C
  obtain ⟨h8, h9, hR⟩ := hW
  obtain ⟨r, X1, M1, f8, f9, hR1⟩ := o_least 1000 (Nat.le_refl _) (xs (I + 1)) X M hR
  have hS := h8.2.2.1
  refine lv_aload_n hx hb dL_law_816 rfl (lv_at hl 2 rfl) ?_
  refine lw_arg 1 hx hb hX hbl hL hS hl hI (by decide) dL_law_817 dL_law_818 dL_law_819 rfl dL_law_820 dL_law_821 ?_
  refine o_calli (va_runV (As := [.int (xs (I + 1))]) (rest := []) ⟨hx, hb, hml, hown, hts⟩ (c_X8_least l Z 1000 (xs (I + 1)) X r X1 f8) (cwV 1 hts gL_law_X8_least rfl rfl rfl (by decide +kernel) ⟨(Nat.le_of_ble_eq_true rfl), (Nat.le_of_ble_eq_true rfl)⟩) (o_preV hG h8 ow_i0 (by decide) rfl) rfl rfl hl.1 rfl (lv_room (Nat.le_of_ble_eq_true rfl)) dL_law_822 ⟨(Nat.le_of_ble_eq_true rfl), (Nat.le_of_ble_eq_true rfl)⟩) h8 (fun H1 locs1 h8 hz hk => ?_)
  have h9 := h9.kept h8.2.2.1 hk (fun q h1 h2 => hd q h2 h1)
  have hS := h8.2.2.1
  refine lv_aload_n hx hb dL_law_825 rfl (lv_at hl 1 rfl) ?_
  refine lw_arg 1 hx hb hX hbl hL hS hl hI (by decide) dL_law_826 dL_law_827 dL_law_828 rfl dL_law_829 dL_law_830 ?_
  refine o_calli (va_runV (As := [.int (xs (I + 1))]) (rest := [.int r]) ⟨hx, hb, hml, hown, hts⟩ (c_X9_least l Z 1000 (xs (I + 1)) M r M1 f9) (cwV 1 hts gL_law_X9_least rfl rfl rfl (by decide +kernel) ⟨(Nat.le_of_ble_eq_true rfl), (Nat.le_of_ble_eq_true rfl)⟩) (o_preV hG h9 ow_i56 (by decide) rfl) rfl rfl hl.1 rfl (lv_room (Nat.le_of_ble_eq_true rfl)) dL_law_831 ⟨(Nat.le_of_ble_eq_true rfl), (Nat.le_of_ble_eq_true rfl)⟩) h9 (fun H2 locs2 h9 hz2 hk2 => ?_)
  have h8 := h8.kept h9.2.2.1 hk2 hd
  exact lv_icmp_eq (tgt := 1656) hx hb dL_law_834 (by decide) (fun _ => kk _ _ _ _ ⟨h8, h9, hR1⟩) (fun c => absurd rfl c)
theorem lw_c20 (l : Launch) (C : lw_C p s m c b L xs Z) (hI : I + 7 ≤ L) (hl : lv_has ls 4 (lw_lv Z b I)) (hW : lw_W Z X M s H locs) (kk : ∀ (X M : ow_S) (H : Heap) (locs : List Loc), lw_W Z X M s H locs → W p l e room_1 s m #[Value.ref b] below meth c H locs 76 4667 Q (F0 m 1656 ls [])) : W p l e room_1 s m #[Value.ref b] below meth c H locs 76 4667 Q (F0 m 839 ls []) := by
  obtain ⟨hx, hb, hml, hown, hts, hX, hbl, hG, hd, hL⟩ := C
  obtain ⟨h8, h9, hR⟩ := hW
  obtain ⟨r, X1, M1, f8, f9, hR1⟩ := o_begin 1000 (Nat.le_refl _) (xs (I + 1)) (xs (I + 2)) X M hR
  have hS := h8.2.2.1
  refine lv_aload_n hx hb dL_law_839 rfl (lv_at hl 2 rfl) ?_
  refine lw_arg 1 hx hb hX hbl hL hS hl hI (by decide) dL_law_840 dL_law_841 dL_law_842 rfl dL_law_843 dL_law_844 ?_
  refine lw_arg 2 hx hb hX hbl hL hS hl hI (by decide) dL_law_845 dL_law_846 dL_law_847 rfl dL_law_848 dL_law_849 ?_
  refine o_calli (va_runV (As := [.int (xs (I + 1)), .int (xs (I + 2))]) (rest := []) ⟨hx, hb, hml, hown, hts⟩ (c_X8_begin l Z 1000 (xs (I + 1)) (xs (I + 2)) X r X1 f8) (cwV 2 hts gL_law_X8_begin rfl rfl rfl (by decide +kernel) ⟨(Nat.le_of_ble_eq_true rfl), (Nat.le_of_ble_eq_true rfl)⟩) (o_preV hG h8 ow_i0 (by decide) rfl) rfl rfl hl.1 rfl (lv_room (Nat.le_of_ble_eq_true rfl)) dL_law_850 ⟨(Nat.le_of_ble_eq_true rfl), (Nat.le_of_ble_eq_true rfl)⟩) h8 (fun H1 locs1 h8 hz hk => ?_)
  have h9 := h9.kept h8.2.2.1 hk (fun q h1 h2 => hd q h2 h1)
  have hS := h8.2.2.1
  refine lv_aload_n hx hb dL_law_853 rfl (lv_at hl 1 rfl) ?_
  refine lw_arg 1 hx hb hX hbl hL hS hl hI (by decide) dL_law_854 dL_law_855 dL_law_856 rfl dL_law_857 dL_law_858 ?_
  refine lw_arg 2 hx hb hX hbl hL hS hl hI (by decide) dL_law_859 dL_law_860 dL_law_861 rfl dL_law_862 dL_law_863 ?_
  refine o_calli (va_runV (As := [.int (xs (I + 1)), .int (xs (I + 2))]) (rest := [.int r]) ⟨hx, hb, hml, hown, hts⟩ (c_X9_begin l Z 1000 (xs (I + 1)) (xs (I + 2)) M r M1 f9) (cwV 2 hts gL_law_X9_begin rfl rfl rfl (by decide +kernel) ⟨(Nat.le_of_ble_eq_true rfl), (Nat.le_of_ble_eq_true rfl)⟩) (o_preV hG h9 ow_i56 (by decide) rfl) rfl rfl hl.1 rfl (lv_room (Nat.le_of_ble_eq_true rfl)) dL_law_864 ⟨(Nat.le_of_ble_eq_true rfl), (Nat.le_of_ble_eq_true rfl)⟩) h9 (fun H2 locs2 h9 hz2 hk2 => ?_)
  have h8 := h8.kept h9.2.2.1 hk2 hd
  exact lv_icmp_eq (tgt := 1656) hx hb dL_law_867 (by decide) (fun _ => kk _ _ _ _ ⟨h8, h9, hR1⟩) (fun c => absurd rfl c)
theorem lw_c21 (l : Launch) (C : lw_C p s m c b L xs Z) (hI : I + 7 ≤ L) (hl : lv_has ls 4 (lw_lv Z b I)) (hW : lw_W Z X M s H locs) (kk : ∀ (X M : ow_S) (H : Heap) (locs : List Loc), lw_W Z X M s H locs → W p l e room_1 s m #[Value.ref b] below meth c H locs 76 4667 Q (F0 m 1656 ls [])) : W p l e room_1 s m #[Value.ref b] below meth c H locs 76 4667 Q (F0 m 872 ls []) := by
  obtain ⟨hx, hb, hml, hown, hts, hX, hbl, hG, hd, hL⟩ := C
  obtain ⟨h8, h9, hR⟩ := hW
  obtain ⟨r, X1, M1, f8, f9, hR1⟩ := o_same 1000 (Nat.le_refl _) (xs (I + 1)) (xs (I + 2)) X M hR
  have hS := h8.2.2.1
  refine lv_aload_n hx hb dL_law_872 rfl (lv_at hl 2 rfl) ?_
  refine lw_arg 1 hx hb hX hbl hL hS hl hI (by decide) dL_law_873 dL_law_874 dL_law_875 rfl dL_law_876 dL_law_877 ?_
  refine lw_arg 2 hx hb hX hbl hL hS hl hI (by decide) dL_law_878 dL_law_879 dL_law_880 rfl dL_law_881 dL_law_882 ?_
  refine o_calli (va_runV (As := [.int (xs (I + 1)), .int (xs (I + 2))]) (rest := []) ⟨hx, hb, hml, hown, hts⟩ (c_X8_same l Z 1000 (xs (I + 1)) (xs (I + 2)) X r X1 f8) (cwV 2 hts gL_law_X8_same rfl rfl rfl (by decide +kernel) ⟨(Nat.le_of_ble_eq_true rfl), (Nat.le_of_ble_eq_true rfl)⟩) (o_preV hG h8 ow_i0 (by decide) rfl) rfl rfl hl.1 rfl (lv_room (Nat.le_of_ble_eq_true rfl)) dL_law_883 ⟨(Nat.le_of_ble_eq_true rfl), (Nat.le_of_ble_eq_true rfl)⟩) h8 (fun H1 locs1 h8 hz hk => ?_)
  have h9 := h9.kept h8.2.2.1 hk (fun q h1 h2 => hd q h2 h1)
  have hS := h8.2.2.1
  refine lv_aload_n hx hb dL_law_886 rfl (lv_at hl 1 rfl) ?_
  refine lw_arg 1 hx hb hX hbl hL hS hl hI (by decide) dL_law_887 dL_law_888 dL_law_889 rfl dL_law_890 dL_law_891 ?_
  refine lw_arg 2 hx hb hX hbl hL hS hl hI (by decide) dL_law_892 dL_law_893 dL_law_894 rfl dL_law_895 dL_law_896 ?_
  refine o_calli (va_runV (As := [.int (xs (I + 1)), .int (xs (I + 2))]) (rest := [.int r]) ⟨hx, hb, hml, hown, hts⟩ (c_X9_same l Z 1000 (xs (I + 1)) (xs (I + 2)) M r M1 f9) (cwV 2 hts gL_law_X9_same rfl rfl rfl (by decide +kernel) ⟨(Nat.le_of_ble_eq_true rfl), (Nat.le_of_ble_eq_true rfl)⟩) (o_preV hG h9 ow_i56 (by decide) rfl) rfl rfl hl.1 rfl (lv_room (Nat.le_of_ble_eq_true rfl)) dL_law_897 ⟨(Nat.le_of_ble_eq_true rfl), (Nat.le_of_ble_eq_true rfl)⟩) h9 (fun H2 locs2 h9 hz2 hk2 => ?_)
  have h8 := h8.kept h9.2.2.1 hk2 hd
  exact lv_icmp_eq (tgt := 1656) hx hb dL_law_900 (by decide) (fun _ => kk _ _ _ _ ⟨h8, h9, hR1⟩) (fun c => absurd rfl c)
end LWC
