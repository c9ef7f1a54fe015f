set_option maxHeartbeats 4000000 in
set_option maxRecDepth 100000 in
theorem law_c8 {p : Program} {l : Launch} {e : Env} {s : State} {m : MethodId} {b L : Nat} {xs : Nat → Int32} {below : List Frame} {meth : Method} {c : Code} {H : Heap} {locs : List Loc} {cells slots : Nat} {Q : State → Prop} {D : va_G} {cs : CS} {aC aM : Nat → Nat → Nat} {AC AM : Nat → Prop} {S T : St} {ls : Array Slot} {i : Nat} (X : LCx p m c s b L xs D cs AC AM) (hR : Rel S T) (hW : WW D cs aC aM AC AM S T H) (hS : va_S (AZ s) s.heap H locs) (hl : lv_has ls 4 (lvL b aC aM i)) (hi : i + 5 ≤ L) (hc : cells ≤ 600000 ∧ slots ≤ 7302250) (K : ∀ (S1 T1 : St) (H1 : Heap) (locs1 : List Loc), Rel S1 T1 → WW D cs aC aM AC AM S1 T1 H1 → va_S (AZ s) s.heap H1 locs1 → W p l e room_1 s m #[Value.ref b] below meth c H1 locs1 cells slots Q (F0 m 830 ls [])) : W p l e room_1 s m #[Value.ref b] below meth c H locs cells slots Q (F0 m 354 ls []) := by
  obtain ⟨r, S1, T1, h1, h2, hR1⟩ := s_vertexOf hR (xs (i + 1))
  refine lv_aload_n X.1.1 X.1.2.1 dL_law_354 rfl (lv_at hl 1 rfl) ?_
  refine lx_arg X hS hl hi 1 (by decide) (by decide) dL_law_355 dL_law_356 dL_law_357 dL_law_358 dL_law_359 ?_
  refine lx_ci (rest := []) X hW hS [.int (xs (i + 1))] (c_X8_vertexOf l (D, cs, aC) AC (xs (i + 1)) S (r, S1) h1) (cwV 1 X.1.2.2.2.2 gL_law_X8_vertexOf rfl rfl rfl (by decide +kernel) ⟨Nat.le_of_ble_eq_true rfl, Nat.le_of_ble_eq_true rfl⟩) rfl hl.1 rfl (Nat.le_of_ble_eq_true rfl) dL_law_360 hc (fun H locs hW hS => ?_)
  refine lv_aload_n X.1.1 X.1.2.1 dL_law_363 rfl (lv_at hl 2 rfl) ?_
  refine lx_arg X hS hl hi 1 (by decide) (by decide) dL_law_364 dL_law_365 dL_law_366 dL_law_367 dL_law_368 ?_
  refine lx_mi (rest := [.int r]) X hW hS [.int (xs (i + 1))] (c_X9_vertexOf l (D, cs, aM) AM (xs (i + 1)) T (r, T1) h2) (cwV 1 X.1.2.2.2.2 gL_law_X9_vertexOf rfl rfl rfl (by decide +kernel) ⟨Nat.le_of_ble_eq_true rfl, Nat.le_of_ble_eq_true rfl⟩) rfl hl.1 rfl (Nat.le_of_ble_eq_true rfl) dL_law_369 hc (fun H locs hW hS => ?_)
  exact lv_icmp_eq (tgt := 830) X.1.1 X.1.2.1 dL_law_372 (by decide) (fun _ => K S1 T1 H locs hR1 hW hS) (fun q => absurd rfl q)
set_option maxHeartbeats 4000000 in
set_option maxRecDepth 100000 in
theorem law_c9 {p : Program} {l : Launch} {e : Env} {s : State} {m : MethodId} {b L : Nat} {xs : Nat → Int32} {below : List Frame} {meth : Method} {c : Code} {H : Heap} {locs : List Loc} {cells slots : Nat} {Q : State → Prop} {D : va_G} {cs : CS} {aC aM : Nat → Nat → Nat} {AC AM : Nat → Prop} {S T : St} {ls : Array Slot} {i : Nat} (X : LCx p m c s b L xs D cs AC AM) (hR : Rel S T) (hW : WW D cs aC aM AC AM S T H) (hS : va_S (AZ s) s.heap H locs) (hl : lv_has ls 4 (lvL b aC aM i)) (hi : i + 5 ≤ L) (hc : cells ≤ 600000 ∧ slots ≤ 7302250) (K : ∀ (S1 T1 : St) (H1 : Heap) (locs1 : List Loc), Rel S1 T1 → WW D cs aC aM AC AM S1 T1 H1 → va_S (AZ s) s.heap H1 locs1 → W p l e room_1 s m #[Value.ref b] below meth c H1 locs1 cells slots Q (F0 m 830 ls [])) : W p l e room_1 s m #[Value.ref b] below meth c H locs cells slots Q (F0 m 377 ls []) := by
  obtain ⟨r, S1, T1, h1, h2, hR1⟩ := s_vertex hR (xs (i + 1)) (xs (i + 2))
  refine lv_aload_n X.1.1 X.1.2.1 dL_law_377 rfl (lv_at hl 1 rfl) ?_
  refine lx_arg X hS hl hi 1 (by decide) (by decide) dL_law_378 dL_law_379 dL_law_380 dL_law_381 dL_law_382 ?_
  refine lx_arg X hS hl hi 2 (by decide) (by decide) dL_law_383 dL_law_384 dL_law_385 dL_law_386 dL_law_387 ?_
  refine lx_ci (rest := []) X hW hS [.int (xs (i + 1)), .int (xs (i + 2))] (c_X8_vertex l (D, cs, aC) AC (xs (i + 1)) (xs (i + 2)) S (r, S1) h1) (cwV 2 X.1.2.2.2.2 gL_law_X8_vertex rfl rfl rfl (by decide +kernel) ⟨Nat.le_of_ble_eq_true rfl, Nat.le_of_ble_eq_true rfl⟩) rfl hl.1 rfl (Nat.le_of_ble_eq_true rfl) dL_law_388 hc (fun H locs hW hS => ?_)
  refine lv_aload_n X.1.1 X.1.2.1 dL_law_391 rfl (lv_at hl 2 rfl) ?_
  refine lx_arg X hS hl hi 1 (by decide) (by decide) dL_law_392 dL_law_393 dL_law_394 dL_law_395 dL_law_396 ?_
  refine lx_arg X hS hl hi 2 (by decide) (by decide) dL_law_397 dL_law_398 dL_law_399 dL_law_400 dL_law_401 ?_
  refine lx_mi (rest := [.int r]) X hW hS [.int (xs (i + 1)), .int (xs (i + 2))] (c_X9_vertex l (D, cs, aM) AM (xs (i + 1)) (xs (i + 2)) T (r, T1) h2) (cwV 2 X.1.2.2.2.2 gL_law_X9_vertex rfl rfl rfl (by decide +kernel) ⟨Nat.le_of_ble_eq_true rfl, Nat.le_of_ble_eq_true rfl⟩) rfl hl.1 rfl (Nat.le_of_ble_eq_true rfl) dL_law_402 hc (fun H locs hW hS => ?_)
  exact lv_icmp_eq (tgt := 830) X.1.1 X.1.2.1 dL_law_405 (by decide) (fun _ => K S1 T1 H locs hR1 hW hS) (fun q => absurd rfl q)
set_option maxHeartbeats 4000000 in
set_option maxRecDepth 100000 in
theorem law_c10 {p : Program} {l : Launch} {e : Env} {s : State} {m : MethodId} {b L : Nat} {xs : Nat → Int32} {below : List Frame} {meth : Method} {c : Code} {H : Heap} {locs : List Loc} {cells slots : Nat} {Q : State → Prop} {D : va_G} {cs : CS} {aC aM : Nat → Nat → Nat} {AC AM : Nat → Prop} {S T : St} {ls : Array Slot} {i : Nat} (X : LCx p m c s b L xs D cs AC AM) (hR : Rel S T) (hW : WW D cs aC aM AC AM S T H) (hS : va_S (AZ s) s.heap H locs) (hl : lv_has ls 4 (lvL b aC aM i)) (hi : i + 5 ≤ L) (hc : cells ≤ 600000 ∧ slots ≤ 7302250) (K : ∀ (S1 T1 : St) (H1 : Heap) (locs1 : List Loc), Rel S1 T1 → WW D cs aC aM AC AM S1 T1 H1 → va_S (AZ s) s.heap H1 locs1 → W p l e room_1 s m #[Value.ref b] below meth c H1 locs1 cells slots Q (F0 m 830 ls [])) : W p l e room_1 s m #[Value.ref b] below meth c H locs cells slots Q (F0 m 410 ls []) := by
  obtain ⟨r, S1, T1, h1, h2, hR1⟩ := s_matches hR (xs (i + 1)) (xs (i + 2))
  refine lv_aload_n X.1.1 X.1.2.1 dL_law_410 rfl (lv_at hl 1 rfl) ?_
  refine lx_arg X hS hl hi 1 (by decide) (by decide) dL_law_411 dL_law_412 dL_law_413 dL_law_414 dL_law_415 ?_
  refine lx_arg X hS hl hi 2 (by decide) (by decide) dL_law_416 dL_law_417 dL_law_418 dL_law_419 dL_law_420 ?_
  refine lx_ci (rest := []) X hW hS [.int (xs (i + 1)), .int (xs (i + 2))] (c_X8_matches l (D, cs, aC) AC (xs (i + 1)) (xs (i + 2)) S (r, S1) h1) (cwV 2 X.1.2.2.2.2 gL_law_X8_matches rfl rfl rfl (by decide +kernel) ⟨Nat.le_of_ble_eq_true rfl, Nat.le_of_ble_eq_true rfl⟩) rfl hl.1 rfl (Nat.le_of_ble_eq_true rfl) dL_law_421 hc (fun H locs hW hS => ?_)
  refine lv_aload_n X.1.1 X.1.2.1 dL_law_424 rfl (lv_at hl 2 rfl) ?_
  refine lx_arg X hS hl hi 1 (by decide) (by decide) dL_law_425 dL_law_426 dL_law_427 dL_law_428 dL_law_429 ?_
  refine lx_arg X hS hl hi 2 (by decide) (by decide) dL_law_430 dL_law_431 dL_law_432 dL_law_433 dL_law_434 ?_
  refine lx_mi (rest := [.int r]) X hW hS [.int (xs (i + 1)), .int (xs (i + 2))] (c_X9_matches l (D, cs, aM) AM (xs (i + 1)) (xs (i + 2)) T (r, T1) h2) (cwV 2 X.1.2.2.2.2 gL_law_X9_matches rfl rfl rfl (by decide +kernel) ⟨Nat.le_of_ble_eq_true rfl, Nat.le_of_ble_eq_true rfl⟩) rfl hl.1 rfl (Nat.le_of_ble_eq_true rfl) dL_law_435 hc (fun H locs hW hS => ?_)
  exact lv_icmp_eq (tgt := 830) X.1.1 X.1.2.1 dL_law_438 (by decide) (fun _ => K S1 T1 H locs hR1 hW hS) (fun q => absurd rfl q)
set_option maxHeartbeats 4000000 in
set_option maxRecDepth 100000 in
theorem law_c11 {p : Program} {l : Launch} {e : Env} {s : State} {m : MethodId} {b L : Nat} {xs : Nat → Int32} {below : List Frame} {meth : Method} {c : Code} {H : Heap} {locs : List Loc} {cells slots : Nat} {Q : State → Prop} {D : va_G} {cs : CS} {aC aM : Nat → Nat → Nat} {AC AM : Nat → Prop} {S T : St} {ls : Array Slot} {i : Nat} (X : LCx p m c s b L xs D cs AC AM) (hR : Rel S T) (hW : WW D cs aC aM AC AM S T H) (hS : va_S (AZ s) s.heap H locs) (hl : lv_has ls 4 (lvL b aC aM i)) (hi : i + 5 ≤ L) (hc : cells ≤ 600000 ∧ slots ≤ 7302250) (K : ∀ (S1 T1 : St) (H1 : Heap) (locs1 : List Loc), Rel S1 T1 → WW D cs aC aM AC AM S1 T1 H1 → va_S (AZ s) s.heap H1 locs1 → W p l e room_1 s m #[Value.ref b] below meth c H1 locs1 cells slots Q (F0 m 830 ls [])) : W p l e room_1 s m #[Value.ref b] below meth c H locs cells slots Q (F0 m 443 ls []) := by
  obtain ⟨r, S1, T1, h1, h2, hR1⟩ := s_match hR (xs (i + 1)) (xs (i + 2)) (xs (i + 3)) (xs (i + 4))
  refine lv_aload_n X.1.1 X.1.2.1 dL_law_443 rfl (lv_at hl 1 rfl) ?_
  refine lx_arg X hS hl hi 1 (by decide) (by decide) dL_law_444 dL_law_445 dL_law_446 dL_law_447 dL_law_448 ?_
  refine lx_arg X hS hl hi 2 (by decide) (by decide) dL_law_449 dL_law_450 dL_law_451 dL_law_452 dL_law_453 ?_
  refine lx_arg X hS hl hi 3 (by decide) (by decide) dL_law_454 dL_law_455 dL_law_456 dL_law_457 dL_law_458 ?_
  refine lx_arg X hS hl hi 4 (by decide) (by decide) dL_law_459 dL_law_460 dL_law_461 dL_law_462 dL_law_463 ?_
  refine lx_ci (rest := []) X hW hS [.int (xs (i + 1)), .int (xs (i + 2)), .int (xs (i + 3)), .int (xs (i + 4))] (c_X8_match l (D, cs, aC) AC (xs (i + 1)) (xs (i + 2)) (xs (i + 3)) (xs (i + 4)) S (r, S1) h1) (cwV 4 X.1.2.2.2.2 gL_law_X8_match rfl rfl rfl (by decide +kernel) ⟨Nat.le_of_ble_eq_true rfl, Nat.le_of_ble_eq_true rfl⟩) rfl hl.1 rfl (Nat.le_of_ble_eq_true rfl) dL_law_464 hc (fun H locs hW hS => ?_)
  refine lv_aload_n X.1.1 X.1.2.1 dL_law_467 rfl (lv_at hl 2 rfl) ?_
  refine lx_arg X hS hl hi 1 (by decide) (by decide) dL_law_468 dL_law_469 dL_law_470 dL_law_471 dL_law_472 ?_
  refine lx_arg X hS hl hi 2 (by decide) (by decide) dL_law_473 dL_law_474 dL_law_475 dL_law_476 dL_law_477 ?_
  refine lx_arg X hS hl hi 3 (by decide) (by decide) dL_law_478 dL_law_479 dL_law_480 dL_law_481 dL_law_482 ?_
  refine lx_arg X hS hl hi 4 (by decide) (by decide) dL_law_483 dL_law_484 dL_law_485 dL_law_486 dL_law_487 ?_
  refine lx_mi (rest := [.int r]) X hW hS [.int (xs (i + 1)), .int (xs (i + 2)), .int (xs (i + 3)), .int (xs (i + 4))] (c_X9_match l (D, cs, aM) AM (xs (i + 1)) (xs (i + 2)) (xs (i + 3)) (xs (i + 4)) T (r, T1) h2) (cwV 4 X.1.2.2.2.2 gL_law_X9_match rfl rfl rfl (by decide +kernel) ⟨Nat.le_of_ble_eq_true rfl, Nat.le_of_ble_eq_true rfl⟩) rfl hl.1 rfl (Nat.le_of_ble_eq_true rfl) dL_law_488 hc (fun H locs hW hS => ?_)
  exact lv_icmp_eq (tgt := 830) X.1.1 X.1.2.1 dL_law_491 (by decide) (fun _ => K S1 T1 H locs hR1 hW hS) (fun q => absurd rfl q)
set_option maxHeartbeats 4000000 in
set_option maxRecDepth 100000 in
theorem law_c12 {p : Program} {l : Launch} {e : Env} {s : State} {m : MethodId} {b L : Nat} {xs : Nat → Int32} {below : List Frame} {meth : Method} {c : Code} {H : Heap} {locs : List Loc} {cells slots : Nat} {Q : State → Prop} {D : va_G} {cs : CS} {aC aM : Nat → Nat → Nat} {AC AM : Nat → Prop} {S T : St} {ls : Array Slot} {i : Nat} (X : LCx p m c s b L xs D cs AC AM) (hR : Rel S T) (hW : WW D cs aC aM AC AM S T H) (hS : va_S (AZ s) s.heap H locs) (hl : lv_has ls 4 (lvL b aC aM i)) (hi : i + 5 ≤ L) (hc : cells ≤ 600000 ∧ slots ≤ 7302250) (K : ∀ (S1 T1 : St) (H1 : Heap) (locs1 : List Loc), Rel S1 T1 → WW D cs aC aM AC AM S1 T1 H1 → va_S (AZ s) s.heap H1 locs1 → W p l e room_1 s m #[Value.ref b] below meth c H1 locs1 cells slots Q (F0 m 830 ls [])) : W p l e room_1 s m #[Value.ref b] below meth c H locs cells slots Q (F0 m 496 ls []) := by
  obtain ⟨r, S1, T1, h1, h2, hR1⟩ := s_cover hR (xs (i + 1))
  refine lv_aload_n X.1.1 X.1.2.1 dL_law_496 rfl (lv_at hl 1 rfl) ?_
  refine lx_arg X hS hl hi 1 (by decide) (by decide) dL_law_497 dL_law_498 dL_law_499 dL_law_500 dL_law_501 ?_
  refine lx_ci (rest := []) X hW hS [.int (xs (i + 1))] (c_X8_cover l (D, cs, aC) AC (xs (i + 1)) S (r, S1) h1) (cwV 1 X.1.2.2.2.2 gL_law_X8_cover rfl rfl rfl (by decide +kernel) ⟨Nat.le_of_ble_eq_true rfl, Nat.le_of_ble_eq_true rfl⟩) rfl hl.1 rfl (Nat.le_of_ble_eq_true rfl) dL_law_502 hc (fun H locs hW hS => ?_)
  refine lv_aload_n X.1.1 X.1.2.1 dL_law_505 rfl (lv_at hl 2 rfl) ?_
  refine lx_arg X hS hl hi 1 (by decide) (by decide) dL_law_506 dL_law_507 dL_law_508 dL_law_509 dL_law_510 ?_
  refine lx_mi (rest := [.int r]) X hW hS [.int (xs (i + 1))] (c_X9_cover l (D, cs, aM) AM (xs (i + 1)) T (r, T1) h2) (cwV 1 X.1.2.2.2.2 gL_law_X9_cover rfl rfl rfl (by decide +kernel) ⟨Nat.le_of_ble_eq_true rfl, Nat.le_of_ble_eq_true rfl⟩) rfl hl.1 rfl (Nat.le_of_ble_eq_true rfl) dL_law_511 hc (fun H locs hW hS => ?_)
  exact lv_icmp_eq (tgt := 830) X.1.1 X.1.2.1 dL_law_514 (by decide) (fun _ => K S1 T1 H locs hR1 hW hS) (fun q => absurd rfl q)
set_option maxHeartbeats 4000000 in
set_option maxRecDepth 100000 in
theorem law_c13 {p : Program} {l : Launch} {e : Env} {s : State} {m : MethodId} {b L : Nat} {xs : Nat → Int32} {below : List Frame} {meth : Method} {c : Code} {H : Heap} {locs : List Loc} {cells slots : Nat} {Q : State → Prop} {D : va_G} {cs : CS} {aC aM : Nat → Nat → Nat} {AC AM : Nat → Prop} {S T : St} {ls : Array Slot} {i : Nat} (X : LCx p m c s b L xs D cs AC AM) (hR : Rel S T) (hW : WW D cs aC aM AC AM S T H) (hS : va_S (AZ s) s.heap H locs) (hl : lv_has ls 4 (lvL b aC aM i)) (hi : i + 5 ≤ L) (hc : cells ≤ 600000 ∧ slots ≤ 7302250) (K : ∀ (S1 T1 : St) (H1 : Heap) (locs1 : List Loc), Rel S1 T1 → WW D cs aC aM AC AM S1 T1 H1 → va_S (AZ s) s.heap H1 locs1 → W p l e room_1 s m #[Value.ref b] below meth c H1 locs1 cells slots Q (F0 m 830 ls [])) : W p l e room_1 s m #[Value.ref b] below meth c H locs cells slots Q (F0 m 519 ls []) := by
  obtain ⟨r, S1, T1, h1, h2, hR1⟩ := s_best hR (xs (i + 1)) (xs (i + 2))
  refine lv_aload_n X.1.1 X.1.2.1 dL_law_519 rfl (lv_at hl 1 rfl) ?_
  refine lx_arg X hS hl hi 1 (by decide) (by decide) dL_law_520 dL_law_521 dL_law_522 dL_law_523 dL_law_524 ?_
  refine lx_arg X hS hl hi 2 (by decide) (by decide) dL_law_525 dL_law_526 dL_law_527 dL_law_528 dL_law_529 ?_
  refine lx_ci (rest := []) X hW hS [.int (xs (i + 1)), .int (xs (i + 2))] (c_X8_best l (D, cs, aC) AC (xs (i + 1)) (xs (i + 2)) S (r, S1) h1) (cwV 2 X.1.2.2.2.2 gL_law_X8_best rfl rfl rfl (by decide +kernel) ⟨Nat.le_of_ble_eq_true rfl, Nat.le_of_ble_eq_true rfl⟩) rfl hl.1 rfl (Nat.le_of_ble_eq_true rfl) dL_law_530 hc (fun H locs hW hS => ?_)
  refine lv_aload_n X.1.1 X.1.2.1 dL_law_533 rfl (lv_at hl 2 rfl) ?_
  refine lx_arg X hS hl hi 1 (by decide) (by decide) dL_law_534 dL_law_535 dL_law_536 dL_law_537 dL_law_538 ?_
  refine lx_arg X hS hl hi 2 (by decide) (by decide) dL_law_539 dL_law_540 dL_law_541 dL_law_542 dL_law_543 ?_
  refine lx_mi (rest := [.int r]) X hW hS [.int (xs (i + 1)), .int (xs (i + 2))] (c_X9_best_ l (D, cs, aM) AM (xs (i + 1)) (xs (i + 2)) T (r, T1) h2) (cwV 2 X.1.2.2.2.2 gL_law_X9_best_ rfl rfl rfl (by decide +kernel) ⟨Nat.le_of_ble_eq_true rfl, Nat.le_of_ble_eq_true rfl⟩) rfl hl.1 rfl (Nat.le_of_ble_eq_true rfl) dL_law_544 hc (fun H locs hW hS => ?_)
  exact lv_icmp_eq (tgt := 830) X.1.1 X.1.2.1 dL_law_547 (by decide) (fun _ => K S1 T1 H locs hR1 hW hS) (fun q => absurd rfl q)
set_option maxHeartbeats 4000000 in
set_option maxRecDepth 100000 in
theorem law_c14 {p : Program} {l : Launch} {e : Env} {s : State} {m : MethodId} {b L : Nat} {xs : Nat → Int32} {below : List Frame} {meth : Method} {c : Code} {H : Heap} {locs : List Loc} {cells slots : Nat} {Q : State → Prop} {D : va_G} {cs : CS} {aC aM : Nat → Nat → Nat} {AC AM : Nat → Prop} {S T : St} {ls : Array Slot} {i : Nat} (X : LCx p m c s b L xs D cs AC AM) (hR : Rel S T) (hW : WW D cs aC aM AC AM S T H) (hS : va_S (AZ s) s.heap H locs) (hl : lv_has ls 4 (lvL b aC aM i)) (hi : i + 5 ≤ L) (hc : cells ≤ 600000 ∧ slots ≤ 7302250) (K : ∀ (S1 T1 : St) (H1 : Heap) (locs1 : List Loc), Rel S1 T1 → WW D cs aC aM AC AM S1 T1 H1 → va_S (AZ s) s.heap H1 locs1 → W p l e room_1 s m #[Value.ref b] below meth c H1 locs1 cells slots Q (F0 m 830 ls [])) : W p l e room_1 s m #[Value.ref b] below meth c H locs cells slots Q (F0 m 552 ls []) := by
  obtain ⟨r, S1, T1, h1, h2, hR1⟩ := s_inst hR (xs (i + 1)) (xs (i + 2))
  refine lv_aload_n X.1.1 X.1.2.1 dL_law_552 rfl (lv_at hl 1 rfl) ?_
  refine lx_arg X hS hl hi 1 (by decide) (by decide) dL_law_553 dL_law_554 dL_law_555 dL_law_556 dL_law_557 ?_
  refine lx_arg X hS hl hi 2 (by decide) (by decide) dL_law_558 dL_law_559 dL_law_560 dL_law_561 dL_law_562 ?_
  refine lx_ci (rest := []) X hW hS [.int (xs (i + 1)), .int (xs (i + 2))] (c_X8_instance l (D, cs, aC) AC (xs (i + 1)) (xs (i + 2)) S (r, S1) h1) (cwV 2 X.1.2.2.2.2 gL_law_X8_instance rfl rfl rfl (by decide +kernel) ⟨Nat.le_of_ble_eq_true rfl, Nat.le_of_ble_eq_true rfl⟩) rfl hl.1 rfl (Nat.le_of_ble_eq_true rfl) dL_law_563 hc (fun H locs hW hS => ?_)
  refine lv_aload_n X.1.1 X.1.2.1 dL_law_566 rfl (lv_at hl 2 rfl) ?_
  refine lx_arg X hS hl hi 1 (by decide) (by decide) dL_law_567 dL_law_568 dL_law_569 dL_law_570 dL_law_571 ?_
  refine lx_arg X hS hl hi 2 (by decide) (by decide) dL_law_572 dL_law_573 dL_law_574 dL_law_575 dL_law_576 ?_
  refine lx_mi (rest := [.int r]) X hW hS [.int (xs (i + 1)), .int (xs (i + 2))] (c_X9_instance l (D, cs, aM) AM (xs (i + 1)) (xs (i + 2)) T (r, T1) h2) (cwV 2 X.1.2.2.2.2 gL_law_X9_instance rfl rfl rfl (by decide +kernel) ⟨Nat.le_of_ble_eq_true rfl, Nat.le_of_ble_eq_true rfl⟩) rfl hl.1 rfl (Nat.le_of_ble_eq_true rfl) dL_law_577 hc (fun H locs hW hS => ?_)
  exact lv_icmp_eq (tgt := 830) X.1.1 X.1.2.1 dL_law_580 (by decide) (fun _ => K S1 T1 H locs hR1 hW hS) (fun q => absurd rfl q)
set_option maxHeartbeats 4000000 in
set_option maxRecDepth 100000 in
theorem law_c15 {p : Program} {l : Launch} {e : Env} {s : State} {m : MethodId} {b L : Nat} {xs : Nat → Int32} {below : List Frame} {meth : Method} {c : Code} {H : Heap} {locs : List Loc} {cells slots : Nat} {Q : State → Prop} {D : va_G} {cs : CS} {aC aM : Nat → Nat → Nat} {AC AM : Nat → Prop} {S T : St} {ls : Array Slot} {i : Nat} (X : LCx p m c s b L xs D cs AC AM) (hR : Rel S T) (hW : WW D cs aC aM AC AM S T H) (hS : va_S (AZ s) s.heap H locs) (hl : lv_has ls 4 (lvL b aC aM i)) (hi : i + 5 ≤ L) (hc : cells ≤ 600000 ∧ slots ≤ 7302250) (K : ∀ (S1 T1 : St) (H1 : Heap) (locs1 : List Loc), Rel S1 T1 → WW D cs aC aM AC AM S1 T1 H1 → va_S (AZ s) s.heap H1 locs1 → W p l e room_1 s m #[Value.ref b] below meth c H1 locs1 cells slots Q (F0 m 830 ls [])) : W p l e room_1 s m #[Value.ref b] below meth c H locs cells slots Q (F0 m 585 ls []) := by
  obtain ⟨r, S1, T1, h1, h2, hR1⟩ := s_area hR 
  refine lv_aload_n X.1.1 X.1.2.1 dL_law_585 rfl (lv_at hl 1 rfl) ?_
  refine lx_ci (rest := []) X hW hS [] (c_X8_area l (D, cs, aC) AC  S (r, S1) h1) (cwV 0 X.1.2.2.2.2 gL_law_X8_area rfl rfl rfl (by decide +kernel) ⟨Nat.le_of_ble_eq_true rfl, Nat.le_of_ble_eq_true rfl⟩) rfl hl.1 rfl (Nat.le_of_ble_eq_true rfl) dL_law_586 hc (fun H locs hW hS => ?_)
  refine lv_aload_n X.1.1 X.1.2.1 dL_law_589 rfl (lv_at hl 2 rfl) ?_
  refine lx_mi (rest := [.int r]) X hW hS [] (c_X9_area l (D, cs, aM) AM  T (r, T1) h2) (cwV 0 X.1.2.2.2.2 gL_law_X9_area rfl rfl rfl (by decide +kernel) ⟨Nat.le_of_ble_eq_true rfl, Nat.le_of_ble_eq_true rfl⟩) rfl hl.1 rfl (Nat.le_of_ble_eq_true rfl) dL_law_590 hc (fun H locs hW hS => ?_)
  exact lv_icmp_eq (tgt := 830) X.1.1 X.1.2.1 dL_law_593 (by decide) (fun _ => K S1 T1 H locs hR1 hW hS) (fun q => absurd rfl q)
