/-! The law's cases. -/
set_option maxHeartbeats 4000000 in
theorem lw_c9 {p : Program} {l : Launch} {e : Env} {s : State} {m : MethodId} {below : List Frame} {meth : Method} {c : Code} {H : Heap} {locs : List Loc} {Q : State → Prop} {D : va_G} {cA : Nat → ClassId} {ls : Array Slot} {b L i : Nat} {xs : Nat → Int32} {A : es_A} (C : mb_C p s m #[Value.ref b] c D cA code R_law) (hml : c.maxLocals = 4) (hX : va_X b L xs s s.heap) (hbl : b < s.heap.size) (hL : L ≤ 3584) (hi : i + 7 ≤ L) (hl : lv_has ls 4 [(3, .int (nI i)), (2, .ref (s.heap.size + 212)), (1, .ref s.heap.size), (0, .ref b)]) (S : lw_St D cA s H locs A)
    (kk : ∀ (H : Heap) (locs : List Loc) (A : es_A), lw_St D cA s H locs A → W p l e room_1 s m #[Value.ref b] below meth c H locs 229 7239 Q (F0 m 1182 ls [])) : W p l e room_1 s m #[Value.ref b] below meth c H locs 229 7239 Q (F0 m 419 ls []) := by
  obtain ⟨hx, hb, hown, gw, hK, hN, hO⟩ := id C
  obtain ⟨μ1, μ2, hc, hm, hP1, hP2, hS⟩ := S
  have h0 := lv_at hl 3 rfl
  have h3 := lv_at hl 0 rfl
  refine lv_aload_n hx hb dL_419 rfl (lv_at hl 2 rfl) ?_
  refine lw_ld (k := 1) hx hb hX hbl hS h0 h3 hi hL (by decide) (by decide) dL_420 dL_421 dL_422 (by decide +kernel) dL_423 dL_424 ?_
  obtain ⟨r1, μ3, hR1, hr1, hc1⟩ := c_seed 0 hc ((xs (i + 1)))
  refine lw_call1 (d := 0 + 1) (y := n_ES_seed) (me := me_ES_seed) (as := [mz_I (xs (i + 1))]) (rest := []) C hml hl.1 hP1 hP2 hS hR1 rfl rfl rfl rfl rfl (Nat.le_of_ble_eq_true rfl) (show Cond.methodLink R_law 53 me_ES_seed.1 ∈ lw_tbl by decide +kernel) (Nat.le_of_ble_eq_true rfl) (Nat.le_of_ble_eq_true rfl) dL_425 (fun H locs hP1 hP2 hS => ?_)
  refine lv_aload_n hx hb dL_428 rfl (lv_at hl 1 rfl) ?_
  refine lw_ld (k := 1) hx hb hX hbl hS h0 h3 hi hL (by decide) (by decide) dL_429 dL_430 dL_431 (by decide +kernel) dL_432 dL_433 ?_
  obtain ⟨r2, μ4, hR2, hr2, hm1⟩ := q_seed 0 hm ((xs (i + 1)))
  refine lw_call2 (d := 0 + 1) (y := n_Mo_seed) (me := me_Mo_seed) (as := [mz_I (xs (i + 1))]) (rest := [.int r1]) C hml hl.1 hP1 hP2 hS hR2 rfl rfl rfl rfl rfl (Nat.le_of_ble_eq_true rfl) (show Cond.methodLink R_law 56 me_Mo_seed.1 ∈ lw_tbl by decide +kernel) (Nat.le_of_ble_eq_true rfl) (Nat.le_of_ble_eq_true rfl) dL_434 (fun H locs hP1 hP2 hS => ?_)
  exact lv_icmp_eq (tgt := 1182) hx hb dL_437 (by decide) (fun _ => kk H locs _ ⟨μ3, μ4, hc1, hm1, hP1, hP2, hS⟩) (fun q => absurd (hr1.trans hr2.symm) q)
set_option maxHeartbeats 4000000 in
theorem lw_c10 {p : Program} {l : Launch} {e : Env} {s : State} {m : MethodId} {below : List Frame} {meth : Method} {c : Code} {H : Heap} {locs : List Loc} {Q : State → Prop} {D : va_G} {cA : Nat → ClassId} {ls : Array Slot} {b L i : Nat} {xs : Nat → Int32} {A : es_A} (C : mb_C p s m #[Value.ref b] c D cA code R_law) (hml : c.maxLocals = 4) (hX : va_X b L xs s s.heap) (hbl : b < s.heap.size) (hL : L ≤ 3584) (hi : i + 7 ≤ L) (hl : lv_has ls 4 [(3, .int (nI i)), (2, .ref (s.heap.size + 212)), (1, .ref s.heap.size), (0, .ref b)]) (S : lw_St D cA s H locs A)
    (kk : ∀ (H : Heap) (locs : List Loc) (A : es_A), lw_St D cA s H locs A → W p l e room_1 s m #[Value.ref b] below meth c H locs 229 7239 Q (F0 m 1182 ls [])) : W p l e room_1 s m #[Value.ref b] below meth c H locs 229 7239 Q (F0 m 442 ls []) := by
  obtain ⟨hx, hb, hown, gw, hK, hN, hO⟩ := id C
  obtain ⟨μ1, μ2, hc, hm, hP1, hP2, hS⟩ := S
  have h0 := lv_at hl 3 rfl
  have h3 := lv_at hl 0 rfl
  refine lv_aload_n hx hb dL_442 rfl (lv_at hl 2 rfl) ?_
  refine lw_ld (k := 1) hx hb hX hbl hS h0 h3 hi hL (by decide) (by decide) dL_443 dL_444 dL_445 (by decide +kernel) dL_446 dL_447 ?_
  refine lw_ld (k := 2) hx hb hX hbl hS h0 h3 hi hL (by decide) (by decide) dL_448 dL_449 dL_450 (by decide +kernel) dL_451 dL_452 ?_
  obtain ⟨r1, μ3, hR1, hr1, hc1⟩ := c_term 0 hc ((xs (i + 1))) ((xs (i + 2)))
  refine lw_call1 (d := 0 + 3) (y := n_ES_term) (me := me_ES_term) (as := [mz_I (xs (i + 1)), mz_I (xs (i + 2))]) (rest := []) C hml hl.1 hP1 hP2 hS hR1 rfl rfl rfl rfl rfl (Nat.le_of_ble_eq_true rfl) (show Cond.methodLink R_law 57 me_ES_term.1 ∈ lw_tbl by decide +kernel) (Nat.le_of_ble_eq_true rfl) (Nat.le_of_ble_eq_true rfl) dL_453 (fun H locs hP1 hP2 hS => ?_)
  refine lv_aload_n hx hb dL_456 rfl (lv_at hl 1 rfl) ?_
  refine lw_ld (k := 1) hx hb hX hbl hS h0 h3 hi hL (by decide) (by decide) dL_457 dL_458 dL_459 (by decide +kernel) dL_460 dL_461 ?_
  refine lw_ld (k := 2) hx hb hX hbl hS h0 h3 hi hL (by decide) (by decide) dL_462 dL_463 dL_464 (by decide +kernel) dL_465 dL_466 ?_
  obtain ⟨r2, μ4, hR2, hr2, hm1⟩ := q_term 0 hm ((xs (i + 1))) ((xs (i + 2)))
  refine lw_call2 (d := 0 + 3) (y := n_Mo_term) (me := me_Mo_term) (as := [mz_I (xs (i + 1)), mz_I (xs (i + 2))]) (rest := [.int r1]) C hml hl.1 hP1 hP2 hS hR2 rfl rfl rfl rfl rfl (Nat.le_of_ble_eq_true rfl) (show Cond.methodLink R_law 61 me_Mo_term.1 ∈ lw_tbl by decide +kernel) (Nat.le_of_ble_eq_true rfl) (Nat.le_of_ble_eq_true rfl) dL_467 (fun H locs hP1 hP2 hS => ?_)
  exact lv_icmp_eq (tgt := 1182) hx hb dL_470 (by decide) (fun _ => kk H locs _ ⟨μ3, μ4, hc1, hm1, hP1, hP2, hS⟩) (fun q => absurd (hr1.trans hr2.symm) q)
set_option maxHeartbeats 4000000 in
theorem lw_c11 {p : Program} {l : Launch} {e : Env} {s : State} {m : MethodId} {below : List Frame} {meth : Method} {c : Code} {H : Heap} {locs : List Loc} {Q : State → Prop} {D : va_G} {cA : Nat → ClassId} {ls : Array Slot} {b L i : Nat} {xs : Nat → Int32} {A : es_A} (C : mb_C p s m #[Value.ref b] c D cA code R_law) (hml : c.maxLocals = 4) (hX : va_X b L xs s s.heap) (hbl : b < s.heap.size) (hL : L ≤ 3584) (hi : i + 7 ≤ L) (hl : lv_has ls 4 [(3, .int (nI i)), (2, .ref (s.heap.size + 212)), (1, .ref s.heap.size), (0, .ref b)]) (S : lw_St D cA s H locs A)
    (kk : ∀ (H : Heap) (locs : List Loc) (A : es_A), lw_St D cA s H locs A → W p l e room_1 s m #[Value.ref b] below meth c H locs 229 7239 Q (F0 m 1182 ls [])) : W p l e room_1 s m #[Value.ref b] below meth c H locs 229 7239 Q (F0 m 475 ls []) := by
  obtain ⟨hx, hb, hown, gw, hK, hN, hO⟩ := id C
  obtain ⟨μ1, μ2, hc, hm, hP1, hP2, hS⟩ := S
  have h0 := lv_at hl 3 rfl
  have h3 := lv_at hl 0 rfl
  refine lv_aload_n hx hb dL_475 rfl (lv_at hl 2 rfl) ?_
  refine lw_ld (k := 1) hx hb hX hbl hS h0 h3 hi hL (by decide) (by decide) dL_476 dL_477 dL_478 (by decide +kernel) dL_479 dL_480 ?_
  obtain ⟨r1, μ3, hR1, hr1, hc1⟩ := c_count 0 hc ((xs (i + 1)))
  refine lw_call1 (d := 0 + 2) (y := n_ES_count) (me := me_ES_count) (as := [mz_I (xs (i + 1))]) (rest := []) C hml hl.1 hP1 hP2 hS hR1 rfl rfl rfl rfl rfl (Nat.le_of_ble_eq_true rfl) (show Cond.methodLink R_law 62 me_ES_count.1 ∈ lw_tbl by decide +kernel) (Nat.le_of_ble_eq_true rfl) (Nat.le_of_ble_eq_true rfl) dL_481 (fun H locs hP1 hP2 hS => ?_)
  refine lv_aload_n hx hb dL_484 rfl (lv_at hl 1 rfl) ?_
  refine lw_ld (k := 1) hx hb hX hbl hS h0 h3 hi hL (by decide) (by decide) dL_485 dL_486 dL_487 (by decide +kernel) dL_488 dL_489 ?_
  obtain ⟨r2, μ4, hR2, hr2, hm1⟩ := q_count 0 hm ((xs (i + 1)))
  refine lw_call2 (d := 0 + 3) (y := n_Mo_count) (me := me_Mo_count) (as := [mz_I (xs (i + 1))]) (rest := [.int r1]) C hml hl.1 hP1 hP2 hS hR2 rfl rfl rfl rfl rfl (Nat.le_of_ble_eq_true rfl) (show Cond.methodLink R_law 65 me_Mo_count.1 ∈ lw_tbl by decide +kernel) (Nat.le_of_ble_eq_true rfl) (Nat.le_of_ble_eq_true rfl) dL_490 (fun H locs hP1 hP2 hS => ?_)
  exact lv_icmp_eq (tgt := 1182) hx hb dL_493 (by decide) (fun _ => kk H locs _ ⟨μ3, μ4, hc1, hm1, hP1, hP2, hS⟩) (fun q => absurd (hr1.trans hr2.symm) q)
set_option maxHeartbeats 4000000 in
theorem lw_c12 {p : Program} {l : Launch} {e : Env} {s : State} {m : MethodId} {below : List Frame} {meth : Method} {c : Code} {H : Heap} {locs : List Loc} {Q : State → Prop} {D : va_G} {cA : Nat → ClassId} {ls : Array Slot} {b L i : Nat} {xs : Nat → Int32} {A : es_A} (C : mb_C p s m #[Value.ref b] c D cA code R_law) (hml : c.maxLocals = 4) (hX : va_X b L xs s s.heap) (hbl : b < s.heap.size) (hL : L ≤ 3584) (hi : i + 7 ≤ L) (hl : lv_has ls 4 [(3, .int (nI i)), (2, .ref (s.heap.size + 212)), (1, .ref s.heap.size), (0, .ref b)]) (S : lw_St D cA s H locs A)
    (kk : ∀ (H : Heap) (locs : List Loc) (A : es_A), lw_St D cA s H locs A → W p l e room_1 s m #[Value.ref b] below meth c H locs 229 7239 Q (F0 m 1182 ls [])) : W p l e room_1 s m #[Value.ref b] below meth c H locs 229 7239 Q (F0 m 498 ls []) := by
  obtain ⟨hx, hb, hown, gw, hK, hN, hO⟩ := id C
  obtain ⟨μ1, μ2, hc, hm, hP1, hP2, hS⟩ := S
  have h0 := lv_at hl 3 rfl
  have h3 := lv_at hl 0 rfl
  refine lv_aload_n hx hb dL_498 rfl (lv_at hl 2 rfl) ?_
  refine lw_ld (k := 1) hx hb hX hbl hS h0 h3 hi hL (by decide) (by decide) dL_499 dL_500 dL_501 (by decide +kernel) dL_502 dL_503 ?_
  refine lw_ld (k := 2) hx hb hX hbl hS h0 h3 hi hL (by decide) (by decide) dL_504 dL_505 dL_506 (by decide +kernel) dL_507 dL_508 ?_
  obtain ⟨r1, μ3, hR1, hr1, hc1⟩ := c_first 0 hc ((xs (i + 1))) ((xs (i + 2)))
  refine lw_call1 (d := 0 + 3) (y := n_ES_first) (me := me_ES_first) (as := [mz_I (xs (i + 1)), mz_I (xs (i + 2))]) (rest := []) C hml hl.1 hP1 hP2 hS hR1 rfl rfl rfl rfl rfl (Nat.le_of_ble_eq_true rfl) (show Cond.methodLink R_law 66 me_ES_first.1 ∈ lw_tbl by decide +kernel) (Nat.le_of_ble_eq_true rfl) (Nat.le_of_ble_eq_true rfl) dL_509 (fun H locs hP1 hP2 hS => ?_)
  refine lv_aload_n hx hb dL_512 rfl (lv_at hl 1 rfl) ?_
  refine lw_ld (k := 1) hx hb hX hbl hS h0 h3 hi hL (by decide) (by decide) dL_513 dL_514 dL_515 (by decide +kernel) dL_516 dL_517 ?_
  refine lw_ld (k := 2) hx hb hX hbl hS h0 h3 hi hL (by decide) (by decide) dL_518 dL_519 dL_520 (by decide +kernel) dL_521 dL_522 ?_
  obtain ⟨r2, μ4, hR2, hr2, hm1⟩ := q_first 0 hm ((xs (i + 1))) ((xs (i + 2)))
  refine lw_call2 (d := 0 + 3) (y := n_Mo_first) (me := me_Mo_first) (as := [mz_I (xs (i + 1)), mz_I (xs (i + 2))]) (rest := [.int r1]) C hml hl.1 hP1 hP2 hS hR2 rfl rfl rfl rfl rfl (Nat.le_of_ble_eq_true rfl) (show Cond.methodLink R_law 69 me_Mo_first.1 ∈ lw_tbl by decide +kernel) (Nat.le_of_ble_eq_true rfl) (Nat.le_of_ble_eq_true rfl) dL_523 (fun H locs hP1 hP2 hS => ?_)
  exact lv_icmp_eq (tgt := 1182) hx hb dL_526 (by decide) (fun _ => kk H locs _ ⟨μ3, μ4, hc1, hm1, hP1, hP2, hS⟩) (fun q => absurd (hr1.trans hr2.symm) q)
set_option maxHeartbeats 4000000 in
theorem lw_c13 {p : Program} {l : Launch} {e : Env} {s : State} {m : MethodId} {below : List Frame} {meth : Method} {c : Code} {H : Heap} {locs : List Loc} {Q : State → Prop} {D : va_G} {cA : Nat → ClassId} {ls : Array Slot} {b L i : Nat} {xs : Nat → Int32} {A : es_A} (C : mb_C p s m #[Value.ref b] c D cA code R_law) (hml : c.maxLocals = 4) (hX : va_X b L xs s s.heap) (hbl : b < s.heap.size) (hL : L ≤ 3584) (hi : i + 7 ≤ L) (hl : lv_has ls 4 [(3, .int (nI i)), (2, .ref (s.heap.size + 212)), (1, .ref s.heap.size), (0, .ref b)]) (S : lw_St D cA s H locs A)
    (kk : ∀ (H : Heap) (locs : List Loc) (A : es_A), lw_St D cA s H locs A → W p l e room_1 s m #[Value.ref b] below meth c H locs 229 7239 Q (F0 m 1182 ls [])) : W p l e room_1 s m #[Value.ref b] below meth c H locs 229 7239 Q (F0 m 531 ls []) := by
  obtain ⟨hx, hb, hown, gw, hK, hN, hO⟩ := id C
  obtain ⟨μ1, μ2, hc, hm, hP1, hP2, hS⟩ := S
  have h0 := lv_at hl 3 rfl
  have h3 := lv_at hl 0 rfl
  refine lv_aload_n hx hb dL_531 rfl (lv_at hl 2 rfl) ?_
  refine lw_ld (k := 1) hx hb hX hbl hS h0 h3 hi hL (by decide) (by decide) dL_532 dL_533 dL_534 (by decide +kernel) dL_535 dL_536 ?_
  refine lw_ld (k := 2) hx hb hX hbl hS h0 h3 hi hL (by decide) (by decide) dL_537 dL_538 dL_539 (by decide +kernel) dL_540 dL_541 ?_
  refine lw_ld (k := 3) hx hb hX hbl hS h0 h3 hi hL (by decide) (by decide) dL_542 dL_543 dL_544 (by decide +kernel) dL_545 dL_546 ?_
  refine lw_ld (k := 4) hx hb hX hbl hS h0 h3 hi hL (by decide) (by decide) dL_547 dL_548 dL_549 (by decide +kernel) dL_550 dL_551 ?_
  refine lw_ld (k := 5) hx hb hX hbl hS h0 h3 hi hL (by decide) (by decide) dL_552 dL_553 dL_554 (by decide +kernel) dL_555 dL_556 ?_
  obtain ⟨r1, μ3, hR1, hr1, hc1⟩ := c_fits 0 hc ((xs (i + 1))) ((xs (i + 2))) ((xs (i + 3))) ((xs (i + 4))) ((xs (i + 5)))
  refine lw_call1 (d := 0 + 3) (y := n_ES_fits) (me := me_ES_fits) (as := [mz_I (xs (i + 1)), mz_I (xs (i + 2)), mz_I (xs (i + 3)), mz_I (xs (i + 4)), mz_I (xs (i + 5))]) (rest := []) C hml hl.1 hP1 hP2 hS hR1 rfl rfl rfl rfl rfl (Nat.le_of_ble_eq_true rfl) (show Cond.methodLink R_law 70 me_ES_fits.1 ∈ lw_tbl by decide +kernel) (Nat.le_of_ble_eq_true rfl) (Nat.le_of_ble_eq_true rfl) dL_557 (fun H locs hP1 hP2 hS => ?_)
  refine lv_aload_n hx hb dL_560 rfl (lv_at hl 1 rfl) ?_
  refine lw_ld (k := 1) hx hb hX hbl hS h0 h3 hi hL (by decide) (by decide) dL_561 dL_562 dL_563 (by decide +kernel) dL_564 dL_565 ?_
  refine lw_ld (k := 2) hx hb hX hbl hS h0 h3 hi hL (by decide) (by decide) dL_566 dL_567 dL_568 (by decide +kernel) dL_569 dL_570 ?_
  refine lw_ld (k := 3) hx hb hX hbl hS h0 h3 hi hL (by decide) (by decide) dL_571 dL_572 dL_573 (by decide +kernel) dL_574 dL_575 ?_
  refine lw_ld (k := 4) hx hb hX hbl hS h0 h3 hi hL (by decide) (by decide) dL_576 dL_577 dL_578 (by decide +kernel) dL_579 dL_580 ?_
  refine lw_ld (k := 5) hx hb hX hbl hS h0 h3 hi hL (by decide) (by decide) dL_581 dL_582 dL_583 (by decide +kernel) dL_584 dL_585 ?_
  obtain ⟨r2, μ4, hR2, hr2, hm1⟩ := q_fits 0 hm ((xs (i + 1))) ((xs (i + 2))) ((xs (i + 3))) ((xs (i + 4))) ((xs (i + 5)))
  refine lw_call2 (d := 0 + 3) (y := n_Mo_fits) (me := me_Mo_fits) (as := [mz_I (xs (i + 1)), mz_I (xs (i + 2)), mz_I (xs (i + 3)), mz_I (xs (i + 4)), mz_I (xs (i + 5))]) (rest := [.int r1]) C hml hl.1 hP1 hP2 hS hR2 rfl rfl rfl rfl rfl (Nat.le_of_ble_eq_true rfl) (show Cond.methodLink R_law 74 me_Mo_fits.1 ∈ lw_tbl by decide +kernel) (Nat.le_of_ble_eq_true rfl) (Nat.le_of_ble_eq_true rfl) dL_586 (fun H locs hP1 hP2 hS => ?_)
  exact lv_icmp_eq (tgt := 1182) hx hb dL_589 (by decide) (fun _ => kk H locs _ ⟨μ3, μ4, hc1, hm1, hP1, hP2, hS⟩) (fun q => absurd (hr1.trans hr2.symm) q)
set_option maxHeartbeats 4000000 in
theorem lw_c14 {p : Program} {l : Launch} {e : Env} {s : State} {m : MethodId} {below : List Frame} {meth : Method} {c : Code} {H : Heap} {locs : List Loc} {Q : State → Prop} {D : va_G} {cA : Nat → ClassId} {ls : Array Slot} {b L i : Nat} {xs : Nat → Int32} {A : es_A} (C : mb_C p s m #[Value.ref b] c D cA code R_law) (hml : c.maxLocals = 4) (hX : va_X b L xs s s.heap) (hbl : b < s.heap.size) (hL : L ≤ 3584) (hi : i + 7 ≤ L) (hl : lv_has ls 4 [(3, .int (nI i)), (2, .ref (s.heap.size + 212)), (1, .ref s.heap.size), (0, .ref b)]) (S : lw_St D cA s H locs A)
    (kk : ∀ (H : Heap) (locs : List Loc) (A : es_A), lw_St D cA s H locs A → W p l e room_1 s m #[Value.ref b] below meth c H locs 229 7239 Q (F0 m 1182 ls [])) : W p l e room_1 s m #[Value.ref b] below meth c H locs 229 7239 Q (F0 m 594 ls []) := by
  obtain ⟨hx, hb, hown, gw, hK, hN, hO⟩ := id C
  obtain ⟨μ1, μ2, hc, hm, hP1, hP2, hS⟩ := S
  have h0 := lv_at hl 3 rfl
  have h3 := lv_at hl 0 rfl
  refine lv_aload_n hx hb dL_594 rfl (lv_at hl 2 rfl) ?_
  refine lw_ld (k := 1) hx hb hX hbl hS h0 h3 hi hL (by decide) (by decide) dL_595 dL_596 dL_597 (by decide +kernel) dL_598 dL_599 ?_
  refine lw_ld (k := 2) hx hb hX hbl hS h0 h3 hi hL (by decide) (by decide) dL_600 dL_601 dL_602 (by decide +kernel) dL_603 dL_604 ?_
  refine lw_ld (k := 3) hx hb hX hbl hS h0 h3 hi hL (by decide) (by decide) dL_605 dL_606 dL_607 (by decide +kernel) dL_608 dL_609 ?_
  obtain ⟨r1, μ3, hR1, hr1, hc1⟩ := c_found 0 hc ((xs (i + 1))) ((xs (i + 2))) ((xs (i + 3)))
  refine lw_call1 (d := 0 + 4) (y := n_ES_found) (me := me_ES_found) (as := [mz_I (xs (i + 1)), mz_I (xs (i + 2)), mz_I (xs (i + 3))]) (rest := []) C hml hl.1 hP1 hP2 hS hR1 rfl rfl rfl rfl rfl (Nat.le_of_ble_eq_true rfl) (show Cond.methodLink R_law 75 me_ES_found.1 ∈ lw_tbl by decide +kernel) (Nat.le_of_ble_eq_true rfl) (Nat.le_of_ble_eq_true rfl) dL_610 (fun H locs hP1 hP2 hS => ?_)
  refine lv_aload_n hx hb dL_613 rfl (lv_at hl 1 rfl) ?_
  refine lw_ld (k := 1) hx hb hX hbl hS h0 h3 hi hL (by decide) (by decide) dL_614 dL_615 dL_616 (by decide +kernel) dL_617 dL_618 ?_
  refine lw_ld (k := 2) hx hb hX hbl hS h0 h3 hi hL (by decide) (by decide) dL_619 dL_620 dL_621 (by decide +kernel) dL_622 dL_623 ?_
  refine lw_ld (k := 3) hx hb hX hbl hS h0 h3 hi hL (by decide) (by decide) dL_624 dL_625 dL_626 (by decide +kernel) dL_627 dL_628 ?_
  obtain ⟨r2, μ4, hR2, hr2, hm1⟩ := q_found 0 hm ((xs (i + 1))) ((xs (i + 2))) ((xs (i + 3)))
  refine lw_call2 (d := 0 + 3) (y := n_Mo_found) (me := me_Mo_found) (as := [mz_I (xs (i + 1)), mz_I (xs (i + 2)), mz_I (xs (i + 3))]) (rest := [.int r1]) C hml hl.1 hP1 hP2 hS hR2 rfl rfl rfl rfl rfl (Nat.le_of_ble_eq_true rfl) (show Cond.methodLink R_law 78 me_Mo_found.1 ∈ lw_tbl by decide +kernel) (Nat.le_of_ble_eq_true rfl) (Nat.le_of_ble_eq_true rfl) dL_629 (fun H locs hP1 hP2 hS => ?_)
  exact lv_icmp_eq (tgt := 1182) hx hb dL_632 (by decide) (fun _ => kk H locs _ ⟨μ3, μ4, hc1, hm1, hP1, hP2, hS⟩) (fun q => absurd (hr1.trans hr2.symm) q)
set_option maxHeartbeats 4000000 in
theorem lw_c15 {p : Program} {l : Launch} {e : Env} {s : State} {m : MethodId} {below : List Frame} {meth : Method} {c : Code} {H : Heap} {locs : List Loc} {Q : State → Prop} {D : va_G} {cA : Nat → ClassId} {ls : Array Slot} {b L i : Nat} {xs : Nat → Int32} {A : es_A} (C : mb_C p s m #[Value.ref b] c D cA code R_law) (hml : c.maxLocals = 4) (hX : va_X b L xs s s.heap) (hbl : b < s.heap.size) (hL : L ≤ 3584) (hi : i + 7 ≤ L) (hl : lv_has ls 4 [(3, .int (nI i)), (2, .ref (s.heap.size + 212)), (1, .ref s.heap.size), (0, .ref b)]) (S : lw_St D cA s H locs A)
    (kk : ∀ (H : Heap) (locs : List Loc) (A : es_A), lw_St D cA s H locs A → W p l e room_1 s m #[Value.ref b] below meth c H locs 229 7239 Q (F0 m 1182 ls [])) : W p l e room_1 s m #[Value.ref b] below meth c H locs 229 7239 Q (F0 m 637 ls []) := by
  obtain ⟨hx, hb, hown, gw, hK, hN, hO⟩ := id C
  obtain ⟨μ1, μ2, hc, hm, hP1, hP2, hS⟩ := S
  have h0 := lv_at hl 3 rfl
  have h3 := lv_at hl 0 rfl
  refine lv_aload_n hx hb dL_637 rfl (lv_at hl 2 rfl) ?_
  refine lw_ld (k := 1) hx hb hX hbl hS h0 h3 hi hL (by decide) (by decide) dL_638 dL_639 dL_640 (by decide +kernel) dL_641 dL_642 ?_
  refine lw_ld (k := 2) hx hb hX hbl hS h0 h3 hi hL (by decide) (by decide) dL_643 dL_644 dL_645 (by decide +kernel) dL_646 dL_647 ?_
  refine lw_ld (k := 3) hx hb hX hbl hS h0 h3 hi hL (by decide) (by decide) dL_648 dL_649 dL_650 (by decide +kernel) dL_651 dL_652 ?_
  refine lw_ld (k := 4) hx hb hX hbl hS h0 h3 hi hL (by decide) (by decide) dL_653 dL_654 dL_655 (by decide +kernel) dL_656 dL_657 ?_
  obtain ⟨r1, μ3, hR1, hr1, hc1⟩ := c_guess 0 hc ((xs (i + 1))) ((xs (i + 2))) ((xs (i + 3))) ((xs (i + 4)))
  refine lw_call1 (d := 0 + 3) (y := n_ES_guess) (me := me_ES_guess) (as := [mz_I (xs (i + 1)), mz_I (xs (i + 2)), mz_I (xs (i + 3)), mz_I (xs (i + 4))]) (rest := []) C hml hl.1 hP1 hP2 hS hR1 rfl rfl rfl rfl rfl (Nat.le_of_ble_eq_true rfl) (show Cond.methodLink R_law 79 me_ES_guess.1 ∈ lw_tbl by decide +kernel) (Nat.le_of_ble_eq_true rfl) (Nat.le_of_ble_eq_true rfl) dL_658 (fun H locs hP1 hP2 hS => ?_)
  refine lv_aload_n hx hb dL_661 rfl (lv_at hl 1 rfl) ?_
  refine lw_ld (k := 1) hx hb hX hbl hS h0 h3 hi hL (by decide) (by decide) dL_662 dL_663 dL_664 (by decide +kernel) dL_665 dL_666 ?_
  refine lw_ld (k := 2) hx hb hX hbl hS h0 h3 hi hL (by decide) (by decide) dL_667 dL_668 dL_669 (by decide +kernel) dL_670 dL_671 ?_
  refine lw_ld (k := 3) hx hb hX hbl hS h0 h3 hi hL (by decide) (by decide) dL_672 dL_673 dL_674 (by decide +kernel) dL_675 dL_676 ?_
  refine lw_ld (k := 4) hx hb hX hbl hS h0 h3 hi hL (by decide) (by decide) dL_677 dL_678 dL_679 (by decide +kernel) dL_680 dL_681 ?_
  obtain ⟨r2, μ4, hR2, hr2, hm1⟩ := q_guess 0 hm ((xs (i + 1))) ((xs (i + 2))) ((xs (i + 3))) ((xs (i + 4)))
  refine lw_call2 (d := 0 + 3) (y := n_Mo_guess) (me := me_Mo_guess) (as := [mz_I (xs (i + 1)), mz_I (xs (i + 2)), mz_I (xs (i + 3)), mz_I (xs (i + 4))]) (rest := [.int r1]) C hml hl.1 hP1 hP2 hS hR2 rfl rfl rfl rfl rfl (Nat.le_of_ble_eq_true rfl) (show Cond.methodLink R_law 82 me_Mo_guess.1 ∈ lw_tbl by decide +kernel) (Nat.le_of_ble_eq_true rfl) (Nat.le_of_ble_eq_true rfl) dL_682 (fun H locs hP1 hP2 hS => ?_)
  exact lv_icmp_eq (tgt := 1182) hx hb dL_685 (by decide) (fun _ => kk H locs _ ⟨μ3, μ4, hc1, hm1, hP1, hP2, hS⟩) (fun q => absurd (hr1.trans hr2.symm) q)
set_option maxHeartbeats 4000000 in
theorem lw_c16 {p : Program} {l : Launch} {e : Env} {s : State} {m : MethodId} {below : List Frame} {meth : Method} {c : Code} {H : Heap} {locs : List Loc} {Q : State → Prop} {D : va_G} {cA : Nat → ClassId} {ls : Array Slot} {b L i : Nat} {xs : Nat → Int32} {A : es_A} (C : mb_C p s m #[Value.ref b] c D cA code R_law) (hml : c.maxLocals = 4) (hX : va_X b L xs s s.heap) (hbl : b < s.heap.size) (hL : L ≤ 3584) (hi : i + 7 ≤ L) (hl : lv_has ls 4 [(3, .int (nI i)), (2, .ref (s.heap.size + 212)), (1, .ref s.heap.size), (0, .ref b)]) (S : lw_St D cA s H locs A)
    (kk : ∀ (H : Heap) (locs : List Loc) (A : es_A), lw_St D cA s H locs A → W p l e room_1 s m #[Value.ref b] below meth c H locs 229 7239 Q (F0 m 1182 ls [])) : W p l e room_1 s m #[Value.ref b] below meth c H locs 229 7239 Q (F0 m 690 ls []) := by
  obtain ⟨hx, hb, hown, gw, hK, hN, hO⟩ := id C
  obtain ⟨μ1, μ2, hc, hm, hP1, hP2, hS⟩ := S
  have h0 := lv_at hl 3 rfl
  have h3 := lv_at hl 0 rfl
  refine lv_aload_n hx hb dL_690 rfl (lv_at hl 2 rfl) ?_
  obtain ⟨r1, μ3, hR1, hr1, hc1⟩ := c_image 0 hc 
  refine lw_call1 (d := 0 + 4) (y := n_ES_image) (me := me_ES_image) (as := []) (rest := []) C hml hl.1 hP1 hP2 hS hR1 rfl rfl rfl rfl rfl (Nat.le_of_ble_eq_true rfl) (show Cond.methodLink R_law 83 me_ES_image.1 ∈ lw_tbl by decide +kernel) (Nat.le_of_ble_eq_true rfl) (Nat.le_of_ble_eq_true rfl) dL_691 (fun H locs hP1 hP2 hS => ?_)
  refine lv_aload_n hx hb dL_694 rfl (lv_at hl 1 rfl) ?_
  obtain ⟨r2, μ4, hR2, hr2, hm1⟩ := q_image 0 hm 
  refine lw_call2 (d := 0 + 1) (y := n_Mo_image) (me := me_Mo_image) (as := []) (rest := [.int r1]) C hml hl.1 hP1 hP2 hS hR2 rfl rfl rfl rfl rfl (Nat.le_of_ble_eq_true rfl) (show Cond.methodLink R_law 86 me_Mo_image.1 ∈ lw_tbl by decide +kernel) (Nat.le_of_ble_eq_true rfl) (Nat.le_of_ble_eq_true rfl) dL_695 (fun H locs hP1 hP2 hS => ?_)
  exact lv_icmp_eq (tgt := 1182) hx hb dL_698 (by decide) (fun _ => kk H locs _ ⟨μ3, μ4, hc1, hm1, hP1, hP2, hS⟩) (fun q => absurd (hr1.trans hr2.symm) q)
set_option maxHeartbeats 4000000 in
theorem lw_c17 {p : Program} {l : Launch} {e : Env} {s : State} {m : MethodId} {below : List Frame} {meth : Method} {c : Code} {H : Heap} {locs : List Loc} {Q : State → Prop} {D : va_G} {cA : Nat → ClassId} {ls : Array Slot} {b L i : Nat} {xs : Nat → Int32} {A : es_A} (C : mb_C p s m #[Value.ref b] c D cA code R_law) (hml : c.maxLocals = 4) (hX : va_X b L xs s s.heap) (hbl : b < s.heap.size) (hL : L ≤ 3584) (hi : i + 7 ≤ L) (hl : lv_has ls 4 [(3, .int (nI i)), (2, .ref (s.heap.size + 212)), (1, .ref s.heap.size), (0, .ref b)]) (S : lw_St D cA s H locs A)
    (kk : ∀ (H : Heap) (locs : List Loc) (A : es_A), lw_St D cA s H locs A → W p l e room_1 s m #[Value.ref b] below meth c H locs 229 7239 Q (F0 m 1182 ls [])) : W p l e room_1 s m #[Value.ref b] below meth c H locs 229 7239 Q (F0 m 703 ls []) := by
  obtain ⟨hx, hb, hown, gw, hK, hN, hO⟩ := id C
  obtain ⟨μ1, μ2, hc, hm, hP1, hP2, hS⟩ := S
  have h0 := lv_at hl 3 rfl
  have h3 := lv_at hl 0 rfl
  refine lv_aload_n hx hb dL_703 rfl (lv_at hl 2 rfl) ?_
  obtain ⟨r1, μ3, hR1, hr1, hc1⟩ := c_restore 0 hc 
  refine lw_call1 (d := 0 + 4) (y := n_ES_restore) (me := me_ES_restore) (as := []) (rest := []) C hml hl.1 hP1 hP2 hS hR1 rfl rfl rfl rfl rfl (Nat.le_of_ble_eq_true rfl) (show Cond.methodLink R_law 87 me_ES_restore.1 ∈ lw_tbl by decide +kernel) (Nat.le_of_ble_eq_true rfl) (Nat.le_of_ble_eq_true rfl) dL_704 (fun H locs hP1 hP2 hS => ?_)
  refine lv_aload_n hx hb dL_707 rfl (lv_at hl 1 rfl) ?_
  obtain ⟨r2, μ4, hR2, hr2, hm1⟩ := q_restore 0 hm 
  refine lw_call2 (d := 0 + 1) (y := n_Mo_restore) (me := me_Mo_restore) (as := []) (rest := [.int r1]) C hml hl.1 hP1 hP2 hS hR2 rfl rfl rfl rfl rfl (Nat.le_of_ble_eq_true rfl) (show Cond.methodLink R_law 90 me_Mo_restore.1 ∈ lw_tbl by decide +kernel) (Nat.le_of_ble_eq_true rfl) (Nat.le_of_ble_eq_true rfl) dL_708 (fun H locs hP1 hP2 hS => ?_)
  exact lv_icmp_eq (tgt := 1182) hx hb dL_711 (by decide) (fun _ => kk H locs _ ⟨μ3, μ4, hc1, hm1, hP1, hP2, hS⟩) (fun q => absurd (hr1.trans hr2.symm) q)
