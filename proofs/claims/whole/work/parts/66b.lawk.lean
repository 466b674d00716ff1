/-! the law: its cases -/
set_option maxHeartbeats 4000000 in
set_option maxRecDepth 100000 in
/-- waits -/
theorem law_k5 {p : Program} {l : Launch} {e : Env} {s : State} {m : MethodId} {below : List Frame} {meth : Method} {c : Code} {b L : Nat} {xs : Nat → Int32} (C0 : lw_At p s m meth c b L xs) (hL : L ≤ 2560) {WH : Nat} (hWH : WH = 100000) {G : xG} {bA mA : Nat} {u : Nat → Nat → Nat} {ma : Nat → Nat} (hK : va_K (xD G) vwCl (x_tys G) s) {i : Nat} (hi : i + 5 ≤ L) {bs : BS} {g : MM} (hI : IV WH bs g) {H : Heap} {locs : List Loc} (hP : va_P (xD G) vwCl (bW G bA u bs ++ gW G mA ma g) H) (hD : va_D (fun q : Nat => s.heap.size ≤ q) (bW G bA u bs ++ gW G mA ma g)) (hS : va_S (fun q : Nat => s.heap.size ≤ q) s.heap H locs) {ls : Array Slot} (hl : lv_has ls 4 [(0, .ref b), (1, .ref bA), (2, .ref mA), (3, .int (nI i))]) (kk : LK p l e s m b below meth c G bA u mA ma WH ls) : W p l e room_1 s m #[Value.ref b] below meth c H locs 96 1522 (lw_Z below #[Value.ref b] s) (F0 m 315 ls []) := by
  obtain ⟨hx, hb, hr, hml, hown, hts, hX, hbl, hlocks, hgv⟩ := C0
  have hA : ∀ q : Nat, s.heap.size ≤ q → (fun q : Nat => s.heap.size ≤ q) q := fun _ h => h
  have hbA : ¬ (fun q : Nat => s.heap.size ≤ q) b := Nat.not_le.mpr hbl
  have htl : ∀ w ∈ wsL_law, w.before #[Value.ref b] s = true := fun w h => hts w (wsL_law_in w h)
  have hL2 : L < 2 ^ 31 := by omega
  refine lv_aload_n hx hb dL_law_315 rfl (lv_at hl 1 rfl) ?_
  refine law_arg (i := i) (j := 1) hx hb hX hbl hbA hS (by omega) hL2 hl (by decide) dL_law_316 dL_law_317 dL_law_318 dL_law_319 dL_law_320 ?_
  refine law_arg (i := i) (j := 2) hx hb hX hbl hbA hS (by omega) hL2 hl (by decide) dL_law_321 dL_law_322 dL_law_323 dL_law_324 dL_law_325 ?_
  refine law_cX (As := [.int (xs (i + 1)), .int (xs (i + 2))]) (rest := []) ⟨hx, hb, hml, hown, htl⟩ (kX4_waits l G bA u bs (xs (i + 1)) (xs (i + 2)) (IV_BI hI)) (cwV 2 htl gL_law_X4_waits rfl rfl rfl (by decide +kernel) ⟨Nat.le_of_ble_eq_true rfl, Nat.le_of_ble_eq_true rfl⟩) hK hP hD hS hA (bW_len _ _ _ _) (bW_len _ _ _ _) (gW_len _ _ _ _) rfl rfl hl.1 rfl (Nat.le_of_ble_eq_true rfl) dL_law_326 ⟨Nat.le_refl _, Nat.le_refl _⟩ (fun H locs hP hD hS => ?_)
  refine lv_aload_n hx hb dL_law_329 rfl (lv_at hl 2 rfl) ?_
  refine law_arg (i := i) (j := 1) hx hb hX hbl hbA hS (by omega) hL2 hl (by decide) dL_law_330 dL_law_331 dL_law_332 dL_law_333 dL_law_334 ?_
  refine law_arg (i := i) (j := 2) hx hb hX hbl hbA hS (by omega) hL2 hl (by decide) dL_law_335 dL_law_336 dL_law_337 dL_law_338 dL_law_339 ?_
  refine law_cM (As := [.int (xs (i + 1)), .int (xs (i + 2))]) ⟨hx, hb, hml, hown, htl⟩ (kX5_waits l G mA ma g (xs (i + 1)) (xs (i + 2)) (IV_GI hI)) (cwV 2 htl gL_law_X5_waits rfl rfl rfl (by decide +kernel) ⟨Nat.le_of_ble_eq_true rfl, Nat.le_of_ble_eq_true rfl⟩) hK hP hD hS hA (bW_len _ _ _ _) (gW_len _ _ _ _) (gW_len _ _ _ _) rfl rfl hl.1 rfl (Nat.le_of_ble_eq_true rfl) dL_law_340 ⟨Nat.le_refl _, Nat.le_refl _⟩ (fun H locs hP hD hS => ?_)
  refine lv_icmp_eq (tgt := 873) hx hb dL_law_343 (by decide) (fun _ => ?_) (fun q => ?_)
  · exact kk _ _ H locs ((st_waits hI (xs (i + 1)) (xs (i + 2))).2) hP hD hS
  · exact absurd (b2_c (st_waits hI (xs (i + 1)) (xs (i + 2))).1) q
set_option maxHeartbeats 4000000 in
set_option maxRecDepth 100000 in
/-- back -/
theorem law_k6 {p : Program} {l : Launch} {e : Env} {s : State} {m : MethodId} {below : List Frame} {meth : Method} {c : Code} {b L : Nat} {xs : Nat → Int32} (C0 : lw_At p s m meth c b L xs) (hL : L ≤ 2560) {WH : Nat} (hWH : WH = 100000) {G : xG} {bA mA : Nat} {u : Nat → Nat → Nat} {ma : Nat → Nat} (hK : va_K (xD G) vwCl (x_tys G) s) {i : Nat} (hi : i + 5 ≤ L) {bs : BS} {g : MM} (hI : IV WH bs g) {H : Heap} {locs : List Loc} (hP : va_P (xD G) vwCl (bW G bA u bs ++ gW G mA ma g) H) (hD : va_D (fun q : Nat => s.heap.size ≤ q) (bW G bA u bs ++ gW G mA ma g)) (hS : va_S (fun q : Nat => s.heap.size ≤ q) s.heap H locs) {ls : Array Slot} (hl : lv_has ls 4 [(0, .ref b), (1, .ref bA), (2, .ref mA), (3, .int (nI i))]) (kk : LK p l e s m b below meth c G bA u mA ma WH ls) : W p l e room_1 s m #[Value.ref b] below meth c H locs 96 1522 (lw_Z below #[Value.ref b] s) (F0 m 348 ls []) := by
  obtain ⟨hx, hb, hr, hml, hown, hts, hX, hbl, hlocks, hgv⟩ := C0
  have hA : ∀ q : Nat, s.heap.size ≤ q → (fun q : Nat => s.heap.size ≤ q) q := fun _ h => h
  have hbA : ¬ (fun q : Nat => s.heap.size ≤ q) b := Nat.not_le.mpr hbl
  have htl : ∀ w ∈ wsL_law, w.before #[Value.ref b] s = true := fun w h => hts w (wsL_law_in w h)
  have hL2 : L < 2 ^ 31 := by omega
  refine lv_aload_n hx hb dL_law_348 rfl (lv_at hl 1 rfl) ?_
  refine law_arg (i := i) (j := 1) hx hb hX hbl hbA hS (by omega) hL2 hl (by decide) dL_law_349 dL_law_350 dL_law_351 dL_law_352 dL_law_353 ?_
  refine law_arg (i := i) (j := 2) hx hb hX hbl hbA hS (by omega) hL2 hl (by decide) dL_law_354 dL_law_355 dL_law_356 dL_law_357 dL_law_358 ?_
  refine law_arg (i := i) (j := 3) hx hb hX hbl hbA hS (by omega) hL2 hl (by decide) dL_law_359 dL_law_360 dL_law_361 dL_law_362 dL_law_363 ?_
  refine law_cX (As := [.int (xs (i + 1)), .int (xs (i + 2)), .int (xs (i + 3))]) (rest := []) ⟨hx, hb, hml, hown, htl⟩ (kX4_back l G bA u bs (xs (i + 1)) (xs (i + 2)) (xs (i + 3)) (IV_BI hI)) (cwV 3 htl gL_law_X4_back rfl rfl rfl (by decide +kernel) ⟨Nat.le_of_ble_eq_true rfl, Nat.le_of_ble_eq_true rfl⟩) hK hP hD hS hA (bW_len _ _ _ _) (bW_len _ _ _ _) (gW_len _ _ _ _) rfl rfl hl.1 rfl (Nat.le_of_ble_eq_true rfl) dL_law_364 ⟨Nat.le_refl _, Nat.le_refl _⟩ (fun H locs hP hD hS => ?_)
  refine lv_aload_n hx hb dL_law_367 rfl (lv_at hl 2 rfl) ?_
  refine law_arg (i := i) (j := 1) hx hb hX hbl hbA hS (by omega) hL2 hl (by decide) dL_law_368 dL_law_369 dL_law_370 dL_law_371 dL_law_372 ?_
  refine law_arg (i := i) (j := 2) hx hb hX hbl hbA hS (by omega) hL2 hl (by decide) dL_law_373 dL_law_374 dL_law_375 dL_law_376 dL_law_377 ?_
  refine law_arg (i := i) (j := 3) hx hb hX hbl hbA hS (by omega) hL2 hl (by decide) dL_law_378 dL_law_379 dL_law_380 dL_law_381 dL_law_382 ?_
  refine law_cM (As := [.int (xs (i + 1)), .int (xs (i + 2)), .int (xs (i + 3))]) ⟨hx, hb, hml, hown, htl⟩ (kX5_back l G mA ma g (xs (i + 1)) (xs (i + 2)) (xs (i + 3)) (IV_GI hI)) (cwV 3 htl gL_law_X5_back rfl rfl rfl (by decide +kernel) ⟨Nat.le_of_ble_eq_true rfl, Nat.le_of_ble_eq_true rfl⟩) hK hP hD hS hA (bW_len _ _ _ _) (gW_len _ _ _ _) (gW_len _ _ _ _) rfl rfl hl.1 rfl (Nat.le_of_ble_eq_true rfl) dL_law_383 ⟨Nat.le_refl _, Nat.le_refl _⟩ (fun H locs hP hD hS => ?_)
  refine lv_icmp_eq (tgt := 873) hx hb dL_law_386 (by decide) (fun _ => ?_) (fun q => ?_)
  · exact kk _ _ H locs ((st_back hI (xs (i + 1)) (xs (i + 2)) (xs (i + 3))).2) hP hD hS
  · exact absurd (b2_c (st_back hI (xs (i + 1)) (xs (i + 2)) (xs (i + 3))).1) q
set_option maxHeartbeats 4000000 in
set_option maxRecDepth 100000 in
/-- other -/
theorem law_k7 {p : Program} {l : Launch} {e : Env} {s : State} {m : MethodId} {below : List Frame} {meth : Method} {c : Code} {b L : Nat} {xs : Nat → Int32} (C0 : lw_At p s m meth c b L xs) (hL : L ≤ 2560) {WH : Nat} (hWH : WH = 100000) {G : xG} {bA mA : Nat} {u : Nat → Nat → Nat} {ma : Nat → Nat} (hK : va_K (xD G) vwCl (x_tys G) s) {i : Nat} (hi : i + 5 ≤ L) {bs : BS} {g : MM} (hI : IV WH bs g) {H : Heap} {locs : List Loc} (hP : va_P (xD G) vwCl (bW G bA u bs ++ gW G mA ma g) H) (hD : va_D (fun q : Nat => s.heap.size ≤ q) (bW G bA u bs ++ gW G mA ma g)) (hS : va_S (fun q : Nat => s.heap.size ≤ q) s.heap H locs) {ls : Array Slot} (hl : lv_has ls 4 [(0, .ref b), (1, .ref bA), (2, .ref mA), (3, .int (nI i))]) (kk : LK p l e s m b below meth c G bA u mA ma WH ls) : W p l e room_1 s m #[Value.ref b] below meth c H locs 96 1522 (lw_Z below #[Value.ref b] s) (F0 m 391 ls []) := by
  obtain ⟨hx, hb, hr, hml, hown, hts, hX, hbl, hlocks, hgv⟩ := C0
  have hA : ∀ q : Nat, s.heap.size ≤ q → (fun q : Nat => s.heap.size ≤ q) q := fun _ h => h
  have hbA : ¬ (fun q : Nat => s.heap.size ≤ q) b := Nat.not_le.mpr hbl
  have htl : ∀ w ∈ wsL_law, w.before #[Value.ref b] s = true := fun w h => hts w (wsL_law_in w h)
  have hL2 : L < 2 ^ 31 := by omega
  refine lv_aload_n hx hb dL_law_391 rfl (lv_at hl 1 rfl) ?_
  refine law_arg (i := i) (j := 1) hx hb hX hbl hbA hS (by omega) hL2 hl (by decide) dL_law_392 dL_law_393 dL_law_394 dL_law_395 dL_law_396 ?_
  refine law_arg (i := i) (j := 2) hx hb hX hbl hbA hS (by omega) hL2 hl (by decide) dL_law_397 dL_law_398 dL_law_399 dL_law_400 dL_law_401 ?_
  refine law_arg (i := i) (j := 3) hx hb hX hbl hbA hS (by omega) hL2 hl (by decide) dL_law_402 dL_law_403 dL_law_404 dL_law_405 dL_law_406 ?_
  refine law_cX (As := [.int (xs (i + 1)), .int (xs (i + 2)), .int (xs (i + 3))]) (rest := []) ⟨hx, hb, hml, hown, htl⟩ (kX4_other l G bA u bs (xs (i + 1)) (xs (i + 2)) (xs (i + 3)) (IV_BI hI)) (cwV 3 htl gL_law_X4_other rfl rfl rfl (by decide +kernel) ⟨Nat.le_of_ble_eq_true rfl, Nat.le_of_ble_eq_true rfl⟩) hK hP hD hS hA (bW_len _ _ _ _) (bW_len _ _ _ _) (gW_len _ _ _ _) rfl rfl hl.1 rfl (Nat.le_of_ble_eq_true rfl) dL_law_407 ⟨Nat.le_refl _, Nat.le_refl _⟩ (fun H locs hP hD hS => ?_)
  refine lv_aload_n hx hb dL_law_410 rfl (lv_at hl 2 rfl) ?_
  refine law_arg (i := i) (j := 1) hx hb hX hbl hbA hS (by omega) hL2 hl (by decide) dL_law_411 dL_law_412 dL_law_413 dL_law_414 dL_law_415 ?_
  refine law_arg (i := i) (j := 2) hx hb hX hbl hbA hS (by omega) hL2 hl (by decide) dL_law_416 dL_law_417 dL_law_418 dL_law_419 dL_law_420 ?_
  refine law_arg (i := i) (j := 3) hx hb hX hbl hbA hS (by omega) hL2 hl (by decide) dL_law_421 dL_law_422 dL_law_423 dL_law_424 dL_law_425 ?_
  refine law_cM (As := [.int (xs (i + 1)), .int (xs (i + 2)), .int (xs (i + 3))]) ⟨hx, hb, hml, hown, htl⟩ (kX5_other l G mA ma g (xs (i + 1)) (xs (i + 2)) (xs (i + 3)) (IV_GI hI)) (cwV 3 htl gL_law_X5_other rfl rfl rfl (by decide +kernel) ⟨Nat.le_of_ble_eq_true rfl, Nat.le_of_ble_eq_true rfl⟩) hK hP hD hS hA (bW_len _ _ _ _) (gW_len _ _ _ _) (gW_len _ _ _ _) rfl rfl hl.1 rfl (Nat.le_of_ble_eq_true rfl) dL_law_426 ⟨Nat.le_refl _, Nat.le_refl _⟩ (fun H locs hP hD hS => ?_)
  refine lv_icmp_eq (tgt := 873) hx hb dL_law_429 (by decide) (fun _ => ?_) (fun q => ?_)
  · exact kk _ _ H locs ((st_other hI (xs (i + 1)) (xs (i + 2)) (xs (i + 3))).2) hP hD hS
  · exact absurd (b2_c (st_other hI (xs (i + 1)) (xs (i + 2)) (xs (i + 3))).1) q
set_option maxHeartbeats 4000000 in
set_option maxRecDepth 100000 in
/-- told -/
theorem law_k8 {p : Program} {l : Launch} {e : Env} {s : State} {m : MethodId} {below : List Frame} {meth : Method} {c : Code} {b L : Nat} {xs : Nat → Int32} (C0 : lw_At p s m meth c b L xs) (hL : L ≤ 2560) {WH : Nat} (hWH : WH = 100000) {G : xG} {bA mA : Nat} {u : Nat → Nat → Nat} {ma : Nat → Nat} (hK : va_K (xD G) vwCl (x_tys G) s) {i : Nat} (hi : i + 5 ≤ L) {bs : BS} {g : MM} (hI : IV WH bs g) {H : Heap} {locs : List Loc} (hP : va_P (xD G) vwCl (bW G bA u bs ++ gW G mA ma g) H) (hD : va_D (fun q : Nat => s.heap.size ≤ q) (bW G bA u bs ++ gW G mA ma g)) (hS : va_S (fun q : Nat => s.heap.size ≤ q) s.heap H locs) {ls : Array Slot} (hl : lv_has ls 4 [(0, .ref b), (1, .ref bA), (2, .ref mA), (3, .int (nI i))]) (kk : LK p l e s m b below meth c G bA u mA ma WH ls) : W p l e room_1 s m #[Value.ref b] below meth c H locs 96 1522 (lw_Z below #[Value.ref b] s) (F0 m 434 ls []) := by
  obtain ⟨hx, hb, hr, hml, hown, hts, hX, hbl, hlocks, hgv⟩ := C0
  have hA : ∀ q : Nat, s.heap.size ≤ q → (fun q : Nat => s.heap.size ≤ q) q := fun _ h => h
  have hbA : ¬ (fun q : Nat => s.heap.size ≤ q) b := Nat.not_le.mpr hbl
  have htl : ∀ w ∈ wsL_law, w.before #[Value.ref b] s = true := fun w h => hts w (wsL_law_in w h)
  have hL2 : L < 2 ^ 31 := by omega
  refine lv_aload_n hx hb dL_law_434 rfl (lv_at hl 1 rfl) ?_
  refine law_arg (i := i) (j := 1) hx hb hX hbl hbA hS (by omega) hL2 hl (by decide) dL_law_435 dL_law_436 dL_law_437 dL_law_438 dL_law_439 ?_
  refine law_arg (i := i) (j := 2) hx hb hX hbl hbA hS (by omega) hL2 hl (by decide) dL_law_440 dL_law_441 dL_law_442 dL_law_443 dL_law_444 ?_
  refine law_argb (i := i) (j := 3) hx hb hX hbl hbA hS (by omega) hL2 hl (by decide) dL_law_445 dL_law_446 dL_law_447 dL_law_448 dL_law_449 dL_law_450 dL_law_453 dL_law_454 dL_law_457 ?_
  refine law_cX (As := [.int (xs (i + 1)), .int (xs (i + 2)), .int (b2 (decide (¬ xs (i + 3) = 0) = true))]) (rest := []) ⟨hx, hb, hml, hown, htl⟩ (kX4_told l G bA u bs (xs (i + 1)) (xs (i + 2)) (decide (¬ xs (i + 3) = 0)) (IV_BI hI)) (cwV 3 htl gL_law_X4_told rfl rfl rfl (by decide +kernel) ⟨Nat.le_of_ble_eq_true rfl, Nat.le_of_ble_eq_true rfl⟩) hK hP hD hS hA (bW_len _ _ _ _) (bW_len _ _ _ _) (gW_len _ _ _ _) rfl rfl hl.1 rfl (Nat.le_of_ble_eq_true rfl) dL_law_458 ⟨Nat.le_refl _, Nat.le_refl _⟩ (fun H locs hP hD hS => ?_)
  refine lv_aload_n hx hb dL_law_461 rfl (lv_at hl 2 rfl) ?_
  refine law_arg (i := i) (j := 1) hx hb hX hbl hbA hS (by omega) hL2 hl (by decide) dL_law_462 dL_law_463 dL_law_464 dL_law_465 dL_law_466 ?_
  refine law_arg (i := i) (j := 2) hx hb hX hbl hbA hS (by omega) hL2 hl (by decide) dL_law_467 dL_law_468 dL_law_469 dL_law_470 dL_law_471 ?_
  refine law_argb (i := i) (j := 3) hx hb hX hbl hbA hS (by omega) hL2 hl (by decide) dL_law_472 dL_law_473 dL_law_474 dL_law_475 dL_law_476 dL_law_477 dL_law_480 dL_law_481 dL_law_484 ?_
  refine law_cM (As := [.int (xs (i + 1)), .int (xs (i + 2)), .int (b2 (decide (¬ xs (i + 3) = 0) = true))]) ⟨hx, hb, hml, hown, htl⟩ (kX5_told l G mA ma g (xs (i + 1)) (xs (i + 2)) (decide (¬ xs (i + 3) = 0)) WH (IV_GI hI) hWH) (cwV 3 htl gL_law_X5_told rfl rfl rfl (by decide +kernel) ⟨Nat.le_of_ble_eq_true rfl, Nat.le_of_ble_eq_true rfl⟩) hK hP hD hS hA (bW_len _ _ _ _) (gW_len _ _ _ _) (gW_len _ _ _ _) rfl rfl hl.1 rfl (Nat.le_of_ble_eq_true rfl) dL_law_485 ⟨Nat.le_refl _, Nat.le_refl _⟩ (fun H locs hP hD hS => ?_)
  refine lv_icmp_eq (tgt := 873) hx hb dL_law_488 (by decide) (fun _ => ?_) (fun q => ?_)
  · exact kk _ _ H locs ((st_told hWH hI (xs (i + 1)) (xs (i + 2)) (decide (¬ xs (i + 3) = 0))).2) hP hD hS
  · exact absurd ((st_told hWH hI (xs (i + 1)) (xs (i + 2)) (decide (¬ xs (i + 3) = 0))).1) q
set_option maxHeartbeats 4000000 in
set_option maxRecDepth 100000 in
/-- at -/
theorem law_k9 {p : Program} {l : Launch} {e : Env} {s : State} {m : MethodId} {below : List Frame} {meth : Method} {c : Code} {b L : Nat} {xs : Nat → Int32} (C0 : lw_At p s m meth c b L xs) (hL : L ≤ 2560) {WH : Nat} (hWH : WH = 100000) {G : xG} {bA mA : Nat} {u : Nat → Nat → Nat} {ma : Nat → Nat} (hK : va_K (xD G) vwCl (x_tys G) s) {i : Nat} (hi : i + 5 ≤ L) {bs : BS} {g : MM} (hI : IV WH bs g) {H : Heap} {locs : List Loc} (hP : va_P (xD G) vwCl (bW G bA u bs ++ gW G mA ma g) H) (hD : va_D (fun q : Nat => s.heap.size ≤ q) (bW G bA u bs ++ gW G mA ma g)) (hS : va_S (fun q : Nat => s.heap.size ≤ q) s.heap H locs) {ls : Array Slot} (hl : lv_has ls 4 [(0, .ref b), (1, .ref bA), (2, .ref mA), (3, .int (nI i))]) (kk : LK p l e s m b below meth c G bA u mA ma WH ls) : W p l e room_1 s m #[Value.ref b] below meth c H locs 96 1522 (lw_Z below #[Value.ref b] s) (F0 m 493 ls []) := by
  obtain ⟨hx, hb, hr, hml, hown, hts, hX, hbl, hlocks, hgv⟩ := C0
  have hA : ∀ q : Nat, s.heap.size ≤ q → (fun q : Nat => s.heap.size ≤ q) q := fun _ h => h
  have hbA : ¬ (fun q : Nat => s.heap.size ≤ q) b := Nat.not_le.mpr hbl
  have htl : ∀ w ∈ wsL_law, w.before #[Value.ref b] s = true := fun w h => hts w (wsL_law_in w h)
  have hL2 : L < 2 ^ 31 := by omega
  refine lv_aload_n hx hb dL_law_493 rfl (lv_at hl 1 rfl) ?_
  refine law_arg (i := i) (j := 1) hx hb hX hbl hbA hS (by omega) hL2 hl (by decide) dL_law_494 dL_law_495 dL_law_496 dL_law_497 dL_law_498 ?_
  refine law_arg (i := i) (j := 2) hx hb hX hbl hbA hS (by omega) hL2 hl (by decide) dL_law_499 dL_law_500 dL_law_501 dL_law_502 dL_law_503 ?_
  refine law_argb (i := i) (j := 3) hx hb hX hbl hbA hS (by omega) hL2 hl (by decide) dL_law_504 dL_law_505 dL_law_506 dL_law_507 dL_law_508 dL_law_509 dL_law_512 dL_law_513 dL_law_516 ?_
  refine law_cX (As := [.int (xs (i + 1)), .int (xs (i + 2)), .int (b2 (decide (¬ xs (i + 3) = 0) = true))]) (rest := []) ⟨hx, hb, hml, hown, htl⟩ (kX4_at l G bA u bs (xs (i + 1)) (xs (i + 2)) (decide (¬ xs (i + 3) = 0)) (IV_BI hI)) (cwV 3 htl gL_law_X4_at rfl rfl rfl (by decide +kernel) ⟨Nat.le_of_ble_eq_true rfl, Nat.le_of_ble_eq_true rfl⟩) hK hP hD hS hA (bW_len _ _ _ _) (bW_len _ _ _ _) (gW_len _ _ _ _) rfl rfl hl.1 rfl (Nat.le_of_ble_eq_true rfl) dL_law_517 ⟨Nat.le_refl _, Nat.le_refl _⟩ (fun H locs hP hD hS => ?_)
  refine lv_aload_n hx hb dL_law_520 rfl (lv_at hl 2 rfl) ?_
  refine law_arg (i := i) (j := 1) hx hb hX hbl hbA hS (by omega) hL2 hl (by decide) dL_law_521 dL_law_522 dL_law_523 dL_law_524 dL_law_525 ?_
  refine law_arg (i := i) (j := 2) hx hb hX hbl hbA hS (by omega) hL2 hl (by decide) dL_law_526 dL_law_527 dL_law_528 dL_law_529 dL_law_530 ?_
  refine law_argb (i := i) (j := 3) hx hb hX hbl hbA hS (by omega) hL2 hl (by decide) dL_law_531 dL_law_532 dL_law_533 dL_law_534 dL_law_535 dL_law_536 dL_law_539 dL_law_540 dL_law_543 ?_
  refine law_cM (As := [.int (xs (i + 1)), .int (xs (i + 2)), .int (b2 (decide (¬ xs (i + 3) = 0) = true))]) ⟨hx, hb, hml, hown, htl⟩ (kX5_at l G mA ma g (xs (i + 1)) (xs (i + 2)) (decide (¬ xs (i + 3) = 0)) (IV_GI hI)) (cwV 3 htl gL_law_X5_at rfl rfl rfl (by decide +kernel) ⟨Nat.le_of_ble_eq_true rfl, Nat.le_of_ble_eq_true rfl⟩) hK hP hD hS hA (bW_len _ _ _ _) (gW_len _ _ _ _) (gW_len _ _ _ _) rfl rfl hl.1 rfl (Nat.le_of_ble_eq_true rfl) dL_law_544 ⟨Nat.le_refl _, Nat.le_refl _⟩ (fun H locs hP hD hS => ?_)
  refine lv_icmp_eq (tgt := 873) hx hb dL_law_547 (by decide) (fun _ => ?_) (fun q => ?_)
  · exact kk _ _ H locs ((st_at hI (xs (i + 1)) (xs (i + 2)) (decide (¬ xs (i + 3) = 0))).2.2) hP hD hS
  · exact absurd ((st_at hI (xs (i + 1)) (xs (i + 2)) (decide (¬ xs (i + 3) = 0))).1) q
