/-! THE LAW 5: cases -/
set_option maxHeartbeats 4000000 in
set_option maxRecDepth 100000 in
theorem law_9 {p : Program} {l : Launch} {e : Env} {s : State} {m : MethodId} {below : List Frame} {meth : Method} {c : Code} {H : Heap} {locs : List Loc} {cells slt : Nat} {Q : State → Prop} {ls : Array Slot} {dC : Nat → ClassId} {dI : Nat → Nat → Nat} {ad : Nat → Nat → Nat} {nz : Value} {Aa : Nat → ClassId} {b L i : Nat} {xs : Nat → Int32} {σ : Sg} (C : RX p s m #[Value.ref b] c cL_law 4 R_law dC dI ad nz Aa (tyS Aa) prsA (fun q : Nat => s.heap.size ≤ q)) (hX : va_X b L xs s s.heap) (hbl : b < s.heap.size) (hL : L ≤ 3072) (hi6 : i + 6 ≤ L) (hcs : cells ≤ room_1.cells ∧ slt ≤ room_1.slots) (hl : lv_has ls 4 (lvL ad b i)) (hi : INV σ) (hok : okS σ) (hP : va_P (dC, dI) scl (wl ad Aa prsA σ) H) (hS : va_S (fun q : Nat => s.heap.size ≤ q) s.heap H locs) (hN : NXT p l e s m b below meth c cells slt Q dC dI ad Aa ls) :
    W p l e room_1 s m #[Value.ref b] below meth c H locs cells slt Q (F0 m 429 ls []) := by
  have hx := C.1
  have hb := C.2.1
  have hbA : ¬ (fun q : Nat => s.heap.size ≤ q) b := Nat.not_le.mpr hbl
  have hR : 62 ≤ room_1.frames ∧ 6200 ≤ room_1.locals := ⟨(Nat.le_of_ble_eq_true rfl), (Nat.le_of_ble_eq_true rfl)⟩
  obtain ⟨x, s1, s2, h1, h2, hi2⟩ := pair_i (p_lane _ _ : PAIR mX8_lane mX9_lane [vi (xs (i + 1)).toInt, vi (xs (i + 2)).toInt]) hi ⟨_, rfl, by decide⟩
  refine lv_aload_n hx hb dL_law_429 rfl (lv_at hl 2 rfl) ?_
  refine arg_ld (j := 1) hx hb hl hX hbl hbA hS hL (by omega) (by decide) dL_law_430 dL_law_431 dL_law_432 dL_law_433 dL_law_434 ?_
  refine arg_ld (j := 2) hx hb hl hX hbl hbA hS hL (by omega) (by decide) dL_law_435 dL_law_436 dL_law_437 dL_law_438 dL_law_439 ?_
  refine rm_i (as := [vi (xs (i + 1)).toInt, vi (xs (i + 2)).toInt]) (n := 2) (rest := []) C ⟨gvX8_lane, (gws_3 173 (by decide +kernel) (by decide +kernel)), by decide +kernel, by decide +kernel, rfl⟩ h1 (fun v hv => by simp only [List.mem_cons, List.not_mem_nil, or_false] at hv; rcases hv with rfl | rfl <;> exact r32_t _) hok rfl (Nat.le_of_ble_eq_true rfl) hP hS hR hcs hl.1 (Nat.le_of_ble_eq_true rfl) dL_law_440 (fun H locs hok hP hS => ?_)
  refine lv_aload_n hx hb dL_law_443 rfl (lv_at hl 1 rfl) ?_
  refine arg_ld (j := 1) hx hb hl hX hbl hbA hS hL (by omega) (by decide) dL_law_444 dL_law_445 dL_law_446 dL_law_447 dL_law_448 ?_
  refine arg_ld (j := 2) hx hb hl hX hbl hbA hS hL (by omega) (by decide) dL_law_449 dL_law_450 dL_law_451 dL_law_452 dL_law_453 ?_
  refine rm_i (as := [vi (xs (i + 1)).toInt, vi (xs (i + 2)).toInt]) (n := 2) (rest := [.int (Int32.ofInt x)]) C ⟨gvX9_lane, (gws_6 11 (by decide +kernel) (by decide +kernel)), by decide +kernel, by decide +kernel, rfl⟩ h2 (fun v hv => by simp only [List.mem_cons, List.not_mem_nil, or_false] at hv; rcases hv with rfl | rfl <;> exact r32_t _) hok rfl (Nat.le_of_ble_eq_true rfl) hP hS hR hcs hl.1 (Nat.le_of_ble_eq_true rfl) dL_law_454 (fun H locs hok hP hS => ?_)
  exact lv_icmp_eq (tgt := 961) hx hb dL_law_457 (by decide) (fun _ => hN s2 H locs hi2 hok hP hS) (fun c9 => absurd rfl c9)
set_option maxHeartbeats 4000000 in
set_option maxRecDepth 100000 in
theorem law_10 {p : Program} {l : Launch} {e : Env} {s : State} {m : MethodId} {below : List Frame} {meth : Method} {c : Code} {H : Heap} {locs : List Loc} {cells slt : Nat} {Q : State → Prop} {ls : Array Slot} {dC : Nat → ClassId} {dI : Nat → Nat → Nat} {ad : Nat → Nat → Nat} {nz : Value} {Aa : Nat → ClassId} {b L i : Nat} {xs : Nat → Int32} {σ : Sg} (C : RX p s m #[Value.ref b] c cL_law 4 R_law dC dI ad nz Aa (tyS Aa) prsA (fun q : Nat => s.heap.size ≤ q)) (hX : va_X b L xs s s.heap) (hbl : b < s.heap.size) (hL : L ≤ 3072) (hi6 : i + 6 ≤ L) (hcs : cells ≤ room_1.cells ∧ slt ≤ room_1.slots) (hl : lv_has ls 4 (lvL ad b i)) (hi : INV σ) (hok : okS σ) (hP : va_P (dC, dI) scl (wl ad Aa prsA σ) H) (hS : va_S (fun q : Nat => s.heap.size ≤ q) s.heap H locs) (hN : NXT p l e s m b below meth c cells slt Q dC dI ad Aa ls) :
    W p l e room_1 s m #[Value.ref b] below meth c H locs cells slt Q (F0 m 462 ls []) := by
  have hx := C.1
  have hb := C.2.1
  have hbA : ¬ (fun q : Nat => s.heap.size ≤ q) b := Nat.not_le.mpr hbl
  have hR : 62 ≤ room_1.frames ∧ 6200 ≤ room_1.locals := ⟨(Nat.le_of_ble_eq_true rfl), (Nat.le_of_ble_eq_true rfl)⟩
  obtain ⟨x, s1, s2, h1, h2, hi2⟩ := pair_i (p_lanes _ : PAIR mX8_lanes mX9_lanes [vi (xs (i + 1)).toInt]) hi ⟨_, rfl, by decide⟩
  refine lv_aload_n hx hb dL_law_462 rfl (lv_at hl 2 rfl) ?_
  refine arg_ld (j := 1) hx hb hl hX hbl hbA hS hL (by omega) (by decide) dL_law_463 dL_law_464 dL_law_465 dL_law_466 dL_law_467 ?_
  refine rm_i (as := [vi (xs (i + 1)).toInt]) (n := 1) (rest := []) C ⟨gvX8_lanes, (gws_3 190 (by decide +kernel) (by decide +kernel)), by decide +kernel, by decide +kernel, rfl⟩ h1 (fun v hv => by simp only [List.mem_cons, List.not_mem_nil, or_false] at hv; rcases hv with rfl <;> exact r32_t _) hok rfl (Nat.le_of_ble_eq_true rfl) hP hS hR hcs hl.1 (Nat.le_of_ble_eq_true rfl) dL_law_468 (fun H locs hok hP hS => ?_)
  refine lv_aload_n hx hb dL_law_471 rfl (lv_at hl 1 rfl) ?_
  refine arg_ld (j := 1) hx hb hl hX hbl hbA hS hL (by omega) (by decide) dL_law_472 dL_law_473 dL_law_474 dL_law_475 dL_law_476 ?_
  refine rm_i (as := [vi (xs (i + 1)).toInt]) (n := 1) (rest := [.int (Int32.ofInt x)]) C ⟨gvX9_lanes, (gws_6 15 (by decide +kernel) (by decide +kernel)), by decide +kernel, by decide +kernel, rfl⟩ h2 (fun v hv => by simp only [List.mem_cons, List.not_mem_nil, or_false] at hv; rcases hv with rfl <;> exact r32_t _) hok rfl (Nat.le_of_ble_eq_true rfl) hP hS hR hcs hl.1 (Nat.le_of_ble_eq_true rfl) dL_law_477 (fun H locs hok hP hS => ?_)
  exact lv_icmp_eq (tgt := 961) hx hb dL_law_480 (by decide) (fun _ => hN s2 H locs hi2 hok hP hS) (fun c9 => absurd rfl c9)
set_option maxHeartbeats 4000000 in
set_option maxRecDepth 100000 in
theorem law_11 {p : Program} {l : Launch} {e : Env} {s : State} {m : MethodId} {below : List Frame} {meth : Method} {c : Code} {H : Heap} {locs : List Loc} {cells slt : Nat} {Q : State → Prop} {ls : Array Slot} {dC : Nat → ClassId} {dI : Nat → Nat → Nat} {ad : Nat → Nat → Nat} {nz : Value} {Aa : Nat → ClassId} {b L i : Nat} {xs : Nat → Int32} {σ : Sg} (C : RX p s m #[Value.ref b] c cL_law 4 R_law dC dI ad nz Aa (tyS Aa) prsA (fun q : Nat => s.heap.size ≤ q)) (hX : va_X b L xs s s.heap) (hbl : b < s.heap.size) (hL : L ≤ 3072) (hi6 : i + 6 ≤ L) (hcs : cells ≤ room_1.cells ∧ slt ≤ room_1.slots) (hl : lv_has ls 4 (lvL ad b i)) (hi : INV σ) (hok : okS σ) (hP : va_P (dC, dI) scl (wl ad Aa prsA σ) H) (hS : va_S (fun q : Nat => s.heap.size ≤ q) s.heap H locs) (hN : NXT p l e s m b below meth c cells slt Q dC dI ad Aa ls) :
    W p l e room_1 s m #[Value.ref b] below meth c H locs cells slt Q (F0 m 485 ls []) := by
  have hx := C.1
  have hb := C.2.1
  have hbA : ¬ (fun q : Nat => s.heap.size ≤ q) b := Nat.not_le.mpr hbl
  have hR : 62 ≤ room_1.frames ∧ 6200 ≤ room_1.locals := ⟨(Nat.le_of_ble_eq_true rfl), (Nat.le_of_ble_eq_true rfl)⟩
  obtain ⟨x, s1, s2, h1, h2, hi2⟩ := pair_i (p_when _ _ : PAIR mX8_when mX9_when [vi (xs (i + 1)).toInt, vi (xs (i + 2)).toInt]) hi ⟨_, rfl, by decide⟩
  refine lv_aload_n hx hb dL_law_485 rfl (lv_at hl 2 rfl) ?_
  refine arg_ld (j := 1) hx hb hl hX hbl hbA hS hL (by omega) (by decide) dL_law_486 dL_law_487 dL_law_488 dL_law_489 dL_law_490 ?_
  refine arg_ld (j := 2) hx hb hl hX hbl hbA hS hL (by omega) (by decide) dL_law_491 dL_law_492 dL_law_493 dL_law_494 dL_law_495 ?_
  refine rm_i (as := [vi (xs (i + 1)).toInt, vi (xs (i + 2)).toInt]) (n := 2) (rest := []) C ⟨gvX8_when, (gws_3 216 (by decide +kernel) (by decide +kernel)), by decide +kernel, by decide +kernel, rfl⟩ h1 (fun v hv => by simp only [List.mem_cons, List.not_mem_nil, or_false] at hv; rcases hv with rfl | rfl <;> exact r32_t _) hok rfl (Nat.le_of_ble_eq_true rfl) hP hS hR hcs hl.1 (Nat.le_of_ble_eq_true rfl) dL_law_496 (fun H locs hok hP hS => ?_)
  refine lv_aload_n hx hb dL_law_499 rfl (lv_at hl 1 rfl) ?_
  refine arg_ld (j := 1) hx hb hl hX hbl hbA hS hL (by omega) (by decide) dL_law_500 dL_law_501 dL_law_502 dL_law_503 dL_law_504 ?_
  refine arg_ld (j := 2) hx hb hl hX hbl hbA hS hL (by omega) (by decide) dL_law_505 dL_law_506 dL_law_507 dL_law_508 dL_law_509 ?_
  refine rm_i (as := [vi (xs (i + 1)).toInt, vi (xs (i + 2)).toInt]) (n := 2) (rest := [.int (Int32.ofInt x)]) C ⟨gvX9_when, (gws_6 23 (by decide +kernel) (by decide +kernel)), by decide +kernel, by decide +kernel, rfl⟩ h2 (fun v hv => by simp only [List.mem_cons, List.not_mem_nil, or_false] at hv; rcases hv with rfl | rfl <;> exact r32_t _) hok rfl (Nat.le_of_ble_eq_true rfl) hP hS hR hcs hl.1 (Nat.le_of_ble_eq_true rfl) dL_law_510 (fun H locs hok hP hS => ?_)
  exact lv_icmp_eq (tgt := 961) hx hb dL_law_513 (by decide) (fun _ => hN s2 H locs hi2 hok hP hS) (fun c9 => absurd rfl c9)
set_option maxHeartbeats 4000000 in
set_option maxRecDepth 100000 in
theorem law_12 {p : Program} {l : Launch} {e : Env} {s : State} {m : MethodId} {below : List Frame} {meth : Method} {c : Code} {H : Heap} {locs : List Loc} {cells slt : Nat} {Q : State → Prop} {ls : Array Slot} {dC : Nat → ClassId} {dI : Nat → Nat → Nat} {ad : Nat → Nat → Nat} {nz : Value} {Aa : Nat → ClassId} {b L i : Nat} {xs : Nat → Int32} {σ : Sg} (C : RX p s m #[Value.ref b] c cL_law 4 R_law dC dI ad nz Aa (tyS Aa) prsA (fun q : Nat => s.heap.size ≤ q)) (hX : va_X b L xs s s.heap) (hbl : b < s.heap.size) (hL : L ≤ 3072) (hi6 : i + 6 ≤ L) (hcs : cells ≤ room_1.cells ∧ slt ≤ room_1.slots) (hl : lv_has ls 4 (lvL ad b i)) (hi : INV σ) (hok : okS σ) (hP : va_P (dC, dI) scl (wl ad Aa prsA σ) H) (hS : va_S (fun q : Nat => s.heap.size ≤ q) s.heap H locs) (hN : NXT p l e s m b below meth c cells slt Q dC dI ad Aa ls) :
    W p l e room_1 s m #[Value.ref b] below meth c H locs cells slt Q (F0 m 518 ls []) := by
  have hx := C.1
  have hb := C.2.1
  have hbA : ¬ (fun q : Nat => s.heap.size ≤ q) b := Nat.not_le.mpr hbl
  have hR : 62 ≤ room_1.frames ∧ 6200 ≤ room_1.locals := ⟨(Nat.le_of_ble_eq_true rfl), (Nat.le_of_ble_eq_true rfl)⟩
  obtain ⟨x, s1, s2, h1, h2, hi2⟩ := pair_i (p_forward  : PAIR mX8_forward mX9_forward []) hi ⟨_, rfl, by decide⟩
  refine lv_aload_n hx hb dL_law_518 rfl (lv_at hl 2 rfl) ?_
  refine rm_i (as := []) (n := 0) (rest := []) C ⟨gvX8_forward, (gws_3 226 (by decide +kernel) (by decide +kernel)), by decide +kernel, by decide +kernel, rfl⟩ h1 (fun v hv => by cases hv) hok rfl (Nat.le_of_ble_eq_true rfl) hP hS hR hcs hl.1 (Nat.le_of_ble_eq_true rfl) dL_law_519 (fun H locs hok hP hS => ?_)
  refine lv_aload_n hx hb dL_law_522 rfl (lv_at hl 1 rfl) ?_
  refine rm_i (as := []) (n := 0) (rest := [.int (Int32.ofInt x)]) C ⟨gvX9_forward, (gws_6 27 (by decide +kernel) (by decide +kernel)), by decide +kernel, by decide +kernel, rfl⟩ h2 (fun v hv => by cases hv) hok rfl (Nat.le_of_ble_eq_true rfl) hP hS hR hcs hl.1 (Nat.le_of_ble_eq_true rfl) dL_law_523 (fun H locs hok hP hS => ?_)
  exact lv_icmp_eq (tgt := 961) hx hb dL_law_526 (by decide) (fun _ => hN s2 H locs hi2 hok hP hS) (fun c9 => absurd rfl c9)
set_option maxHeartbeats 4000000 in
set_option maxRecDepth 100000 in
theorem law_13 {p : Program} {l : Launch} {e : Env} {s : State} {m : MethodId} {below : List Frame} {meth : Method} {c : Code} {H : Heap} {locs : List Loc} {cells slt : Nat} {Q : State → Prop} {ls : Array Slot} {dC : Nat → ClassId} {dI : Nat → Nat → Nat} {ad : Nat → Nat → Nat} {nz : Value} {Aa : Nat → ClassId} {b L i : Nat} {xs : Nat → Int32} {σ : Sg} (C : RX p s m #[Value.ref b] c cL_law 4 R_law dC dI ad nz Aa (tyS Aa) prsA (fun q : Nat => s.heap.size ≤ q)) (hX : va_X b L xs s s.heap) (hbl : b < s.heap.size) (hL : L ≤ 3072) (hi6 : i + 6 ≤ L) (hcs : cells ≤ room_1.cells ∧ slt ≤ room_1.slots) (hl : lv_has ls 4 (lvL ad b i)) (hi : INV σ) (hok : okS σ) (hP : va_P (dC, dI) scl (wl ad Aa prsA σ) H) (hS : va_S (fun q : Nat => s.heap.size ≤ q) s.heap H locs) (hN : NXT p l e s m b below meth c cells slt Q dC dI ad Aa ls) :
    W p l e room_1 s m #[Value.ref b] below meth c H locs cells slt Q (F0 m 531 ls []) := by
  have hx := C.1
  have hb := C.2.1
  have hbA : ¬ (fun q : Nat => s.heap.size ≤ q) b := Nat.not_le.mpr hbl
  have hR : 62 ≤ room_1.frames ∧ 6200 ≤ room_1.locals := ⟨(Nat.le_of_ble_eq_true rfl), (Nat.le_of_ble_eq_true rfl)⟩
  obtain ⟨x, s1, s2, h1, h2, hi2⟩ := pair_i (p_blame _ : PAIR mX8_blame mX9_blame [vi (xs (i + 1)).toInt]) hi ⟨_, rfl, by decide⟩
  refine lv_aload_n hx hb dL_law_531 rfl (lv_at hl 2 rfl) ?_
  refine arg_ld (j := 1) hx hb hl hX hbl hbA hS hL (by omega) (by decide) dL_law_532 dL_law_533 dL_law_534 dL_law_535 dL_law_536 ?_
  refine rm_i (as := [vi (xs (i + 1)).toInt]) (n := 1) (rest := []) C ⟨gvX8_blame, (gws_3 234 (by decide +kernel) (by decide +kernel)), by decide +kernel, by decide +kernel, rfl⟩ h1 (fun v hv => by simp only [List.mem_cons, List.not_mem_nil, or_false] at hv; rcases hv with rfl <;> exact r32_t _) hok rfl (Nat.le_of_ble_eq_true rfl) hP hS hR hcs hl.1 (Nat.le_of_ble_eq_true rfl) dL_law_537 (fun H locs hok hP hS => ?_)
  refine lv_aload_n hx hb dL_law_540 rfl (lv_at hl 1 rfl) ?_
  refine arg_ld (j := 1) hx hb hl hX hbl hbA hS hL (by omega) (by decide) dL_law_541 dL_law_542 dL_law_543 dL_law_544 dL_law_545 ?_
  refine rm_i (as := [vi (xs (i + 1)).toInt]) (n := 1) (rest := [.int (Int32.ofInt x)]) C ⟨gvX9_blame, (gws_6 31 (by decide +kernel) (by decide +kernel)), by decide +kernel, by decide +kernel, rfl⟩ h2 (fun v hv => by simp only [List.mem_cons, List.not_mem_nil, or_false] at hv; rcases hv with rfl <;> exact r32_t _) hok rfl (Nat.le_of_ble_eq_true rfl) hP hS hR hcs hl.1 (Nat.le_of_ble_eq_true rfl) dL_law_546 (fun H locs hok hP hS => ?_)
  exact lv_icmp_eq (tgt := 961) hx hb dL_law_549 (by decide) (fun _ => hN s2 H locs hi2 hok hP hS) (fun c9 => absurd rfl c9)
set_option maxHeartbeats 4000000 in
set_option maxRecDepth 100000 in
theorem law_14 {p : Program} {l : Launch} {e : Env} {s : State} {m : MethodId} {below : List Frame} {meth : Method} {c : Code} {H : Heap} {locs : List Loc} {cells slt : Nat} {Q : State → Prop} {ls : Array Slot} {dC : Nat → ClassId} {dI : Nat → Nat → Nat} {ad : Nat → Nat → Nat} {nz : Value} {Aa : Nat → ClassId} {b L i : Nat} {xs : Nat → Int32} {σ : Sg} (C : RX p s m #[Value.ref b] c cL_law 4 R_law dC dI ad nz Aa (tyS Aa) prsA (fun q : Nat => s.heap.size ≤ q)) (hX : va_X b L xs s s.heap) (hbl : b < s.heap.size) (hL : L ≤ 3072) (hi6 : i + 6 ≤ L) (hcs : cells ≤ room_1.cells ∧ slt ≤ room_1.slots) (hl : lv_has ls 4 (lvL ad b i)) (hi : INV σ) (hok : okS σ) (hP : va_P (dC, dI) scl (wl ad Aa prsA σ) H) (hS : va_S (fun q : Nat => s.heap.size ≤ q) s.heap H locs) (hN : NXT p l e s m b below meth c cells slt Q dC dI ad Aa ls) :
    W p l e room_1 s m #[Value.ref b] below meth c H locs cells slt Q (F0 m 554 ls []) := by
  have hx := C.1
  have hb := C.2.1
  have hbA : ¬ (fun q : Nat => s.heap.size ≤ q) b := Nat.not_le.mpr hbl
  have hR : 62 ≤ room_1.frames ∧ 6200 ≤ room_1.locals := ⟨(Nat.le_of_ble_eq_true rfl), (Nat.le_of_ble_eq_true rfl)⟩
  obtain ⟨x, s1, s2, h1, h2, hi2⟩ := pair_i (p_tells _ _ (r32_t _) : PAIR mX8_tells mX9_tells [vi (xs (i + 1)).toInt, vi (xs (i + 2)).toInt]) hi ⟨_, rfl, by decide⟩
  refine lv_aload_n hx hb dL_law_554 rfl (lv_at hl 2 rfl) ?_
  refine arg_ld (j := 1) hx hb hl hX hbl hbA hS hL (by omega) (by decide) dL_law_555 dL_law_556 dL_law_557 dL_law_558 dL_law_559 ?_
  refine arg_ld (j := 2) hx hb hl hX hbl hbA hS hL (by omega) (by decide) dL_law_560 dL_law_561 dL_law_562 dL_law_563 dL_law_564 ?_
  refine rm_i (as := [vi (xs (i + 1)).toInt, vi (xs (i + 2)).toInt]) (n := 2) (rest := []) C ⟨gvX8_tells, (gws_4 10 (by decide +kernel) (by decide +kernel)), by decide +kernel, by decide +kernel, rfl⟩ h1 (fun v hv => by simp only [List.mem_cons, List.not_mem_nil, or_false] at hv; rcases hv with rfl | rfl <;> exact r32_t _) hok rfl (Nat.le_of_ble_eq_true rfl) hP hS hR hcs hl.1 (Nat.le_of_ble_eq_true rfl) dL_law_565 (fun H locs hok hP hS => ?_)
  refine lv_aload_n hx hb dL_law_568 rfl (lv_at hl 1 rfl) ?_
  refine arg_ld (j := 1) hx hb hl hX hbl hbA hS hL (by omega) (by decide) dL_law_569 dL_law_570 dL_law_571 dL_law_572 dL_law_573 ?_
  refine arg_ld (j := 2) hx hb hl hX hbl hbA hS hL (by omega) (by decide) dL_law_574 dL_law_575 dL_law_576 dL_law_577 dL_law_578 ?_
  refine rm_i (as := [vi (xs (i + 1)).toInt, vi (xs (i + 2)).toInt]) (n := 2) (rest := [.int (Int32.ofInt x)]) C ⟨gvX9_tells, (gws_6 35 (by decide +kernel) (by decide +kernel)), by decide +kernel, by decide +kernel, rfl⟩ h2 (fun v hv => by simp only [List.mem_cons, List.not_mem_nil, or_false] at hv; rcases hv with rfl | rfl <;> exact r32_t _) hok rfl (Nat.le_of_ble_eq_true rfl) hP hS hR hcs hl.1 (Nat.le_of_ble_eq_true rfl) dL_law_579 (fun H locs hok hP hS => ?_)
  exact lv_icmp_eq (tgt := 961) hx hb dL_law_582 (by decide) (fun _ => hN s2 H locs hi2 hok hP hS) (fun c9 => absurd rfl c9)
set_option maxHeartbeats 4000000 in
set_option maxRecDepth 100000 in
theorem law_15 {p : Program} {l : Launch} {e : Env} {s : State} {m : MethodId} {below : List Frame} {meth : Method} {c : Code} {H : Heap} {locs : List Loc} {cells slt : Nat} {Q : State → Prop} {ls : Array Slot} {dC : Nat → ClassId} {dI : Nat → Nat → Nat} {ad : Nat → Nat → Nat} {nz : Value} {Aa : Nat → ClassId} {b L i : Nat} {xs : Nat → Int32} {σ : Sg} (C : RX p s m #[Value.ref b] c cL_law 4 R_law dC dI ad nz Aa (tyS Aa) prsA (fun q : Nat => s.heap.size ≤ q)) (hX : va_X b L xs s s.heap) (hbl : b < s.heap.size) (hL : L ≤ 3072) (hi6 : i + 6 ≤ L) (hcs : cells ≤ room_1.cells ∧ slt ≤ room_1.slots) (hl : lv_has ls 4 (lvL ad b i)) (hi : INV σ) (hok : okS σ) (hP : va_P (dC, dI) scl (wl ad Aa prsA σ) H) (hS : va_S (fun q : Nat => s.heap.size ≤ q) s.heap H locs) (hN : NXT p l e s m b below meth c cells slt Q dC dI ad Aa ls) :
    W p l e room_1 s m #[Value.ref b] below meth c H locs cells slt Q (F0 m 587 ls []) := by
  have hx := C.1
  have hb := C.2.1
  have hbA : ¬ (fun q : Nat => s.heap.size ≤ q) b := Nat.not_le.mpr hbl
  have hR : 62 ≤ room_1.frames ∧ 6200 ≤ room_1.locals := ⟨(Nat.le_of_ble_eq_true rfl), (Nat.le_of_ble_eq_true rfl)⟩
  obtain ⟨x, s1, s2, h1, h2, hi2⟩ := pair_i (p_film _ : PAIR mX8_film mX9_film [vi (xs (i + 1)).toInt]) hi ⟨_, rfl, by decide⟩
  refine lv_aload_n hx hb dL_law_587 rfl (lv_at hl 2 rfl) ?_
  refine arg_ld (j := 1) hx hb hl hX hbl hbA hS hL (by omega) (by decide) dL_law_588 dL_law_589 dL_law_590 dL_law_591 dL_law_592 ?_
  refine rm_i (as := [vi (xs (i + 1)).toInt]) (n := 1) (rest := []) C ⟨gvX8_film, (gws_4 52 (by decide +kernel) (by decide +kernel)), by decide +kernel, by decide +kernel, rfl⟩ h1 (fun v hv => by simp only [List.mem_cons, List.not_mem_nil, or_false] at hv; rcases hv with rfl <;> exact r32_t _) hok rfl (Nat.le_of_ble_eq_true rfl) hP hS hR hcs hl.1 (Nat.le_of_ble_eq_true rfl) dL_law_593 (fun H locs hok hP hS => ?_)
  refine lv_aload_n hx hb dL_law_596 rfl (lv_at hl 1 rfl) ?_
  refine arg_ld (j := 1) hx hb hl hX hbl hbA hS hL (by omega) (by decide) dL_law_597 dL_law_598 dL_law_599 dL_law_600 dL_law_601 ?_
  refine rm_i (as := [vi (xs (i + 1)).toInt]) (n := 1) (rest := [.int (Int32.ofInt x)]) C ⟨gvX9_film, (gws_6 51 (by decide +kernel) (by decide +kernel)), by decide +kernel, by decide +kernel, rfl⟩ h2 (fun v hv => by simp only [List.mem_cons, List.not_mem_nil, or_false] at hv; rcases hv with rfl <;> exact r32_t _) hok rfl (Nat.le_of_ble_eq_true rfl) hP hS hR hcs hl.1 (Nat.le_of_ble_eq_true rfl) dL_law_602 (fun H locs hok hP hS => ?_)
  exact lv_icmp_eq (tgt := 961) hx hb dL_law_605 (by decide) (fun _ => hN s2 H locs hi2 hok hP hS) (fun c9 => absurd rfl c9)
set_option maxHeartbeats 4000000 in
set_option maxRecDepth 100000 in
theorem law_16 {p : Program} {l : Launch} {e : Env} {s : State} {m : MethodId} {below : List Frame} {meth : Method} {c : Code} {H : Heap} {locs : List Loc} {cells slt : Nat} {Q : State → Prop} {ls : Array Slot} {dC : Nat → ClassId} {dI : Nat → Nat → Nat} {ad : Nat → Nat → Nat} {nz : Value} {Aa : Nat → ClassId} {b L i : Nat} {xs : Nat → Int32} {σ : Sg} (C : RX p s m #[Value.ref b] c cL_law 4 R_law dC dI ad nz Aa (tyS Aa) prsA (fun q : Nat => s.heap.size ≤ q)) (hX : va_X b L xs s s.heap) (hbl : b < s.heap.size) (hL : L ≤ 3072) (hi6 : i + 6 ≤ L) (hcs : cells ≤ room_1.cells ∧ slt ≤ room_1.slots) (hl : lv_has ls 4 (lvL ad b i)) (hi : INV σ) (hok : okS σ) (hP : va_P (dC, dI) scl (wl ad Aa prsA σ) H) (hS : va_S (fun q : Nat => s.heap.size ≤ q) s.heap H locs) (hN : NXT p l e s m b below meth c cells slt Q dC dI ad Aa ls) :
    W p l e room_1 s m #[Value.ref b] below meth c H locs cells slt Q (F0 m 610 ls []) := by
  have hx := C.1
  have hb := C.2.1
  have hbA : ¬ (fun q : Nat => s.heap.size ≤ q) b := Nat.not_le.mpr hbl
  have hR : 62 ≤ room_1.frames ∧ 6200 ≤ room_1.locals := ⟨(Nat.le_of_ble_eq_true rfl), (Nat.le_of_ble_eq_true rfl)⟩
  obtain ⟨x, s1, s2, h1, h2, hi2⟩ := pair_i (p_drawn _ : PAIR mX8_drawn mX9_drawn [vi (xs (i + 1)).toInt]) hi ⟨_, rfl, by decide⟩
  refine lv_aload_n hx hb dL_law_610 rfl (lv_at hl 2 rfl) ?_
  refine arg_ld (j := 1) hx hb hl hX hbl hbA hS hL (by omega) (by decide) dL_law_611 dL_law_612 dL_law_613 dL_law_614 dL_law_615 ?_
  refine rm_i (as := [vi (xs (i + 1)).toInt]) (n := 1) (rest := []) C ⟨gvX8_drawn, (gws_4 70 (by decide +kernel) (by decide +kernel)), by decide +kernel, by decide +kernel, rfl⟩ h1 (fun v hv => by simp only [List.mem_cons, List.not_mem_nil, or_false] at hv; rcases hv with rfl <;> exact r32_t _) hok rfl (Nat.le_of_ble_eq_true rfl) hP hS hR hcs hl.1 (Nat.le_of_ble_eq_true rfl) dL_law_616 (fun H locs hok hP hS => ?_)
  refine lv_aload_n hx hb dL_law_619 rfl (lv_at hl 1 rfl) ?_
  refine arg_ld (j := 1) hx hb hl hX hbl hbA hS hL (by omega) (by decide) dL_law_620 dL_law_621 dL_law_622 dL_law_623 dL_law_624 ?_
  refine rm_i (as := [vi (xs (i + 1)).toInt]) (n := 1) (rest := [.int (Int32.ofInt x)]) C ⟨gvX9_drawn, (gws_6 61 (by decide +kernel) (by decide +kernel)), by decide +kernel, by decide +kernel, rfl⟩ h2 (fun v hv => by simp only [List.mem_cons, List.not_mem_nil, or_false] at hv; rcases hv with rfl <;> exact r32_t _) hok rfl (Nat.le_of_ble_eq_true rfl) hP hS hR hcs hl.1 (Nat.le_of_ble_eq_true rfl) dL_law_625 (fun H locs hok hP hS => ?_)
  exact lv_icmp_eq (tgt := 961) hx hb dL_law_628 (by decide) (fun _ => hN s2 H locs hi2 hok hP hS) (fun c9 => absurd rfl c9)
set_option maxHeartbeats 4000000 in
set_option maxRecDepth 100000 in
theorem law_17 {p : Program} {l : Launch} {e : Env} {s : State} {m : MethodId} {below : List Frame} {meth : Method} {c : Code} {H : Heap} {locs : List Loc} {cells slt : Nat} {Q : State → Prop} {ls : Array Slot} {dC : Nat → ClassId} {dI : Nat → Nat → Nat} {ad : Nat → Nat → Nat} {nz : Value} {Aa : Nat → ClassId} {b L i : Nat} {xs : Nat → Int32} {σ : Sg} (C : RX p s m #[Value.ref b] c cL_law 4 R_law dC dI ad nz Aa (tyS Aa) prsA (fun q : Nat => s.heap.size ≤ q)) (hX : va_X b L xs s s.heap) (hbl : b < s.heap.size) (hL : L ≤ 3072) (hi6 : i + 6 ≤ L) (hcs : cells ≤ room_1.cells ∧ slt ≤ room_1.slots) (hl : lv_has ls 4 (lvL ad b i)) (hi : INV σ) (hok : okS σ) (hP : va_P (dC, dI) scl (wl ad Aa prsA σ) H) (hS : va_S (fun q : Nat => s.heap.size ≤ q) s.heap H locs) (hN : NXT p l e s m b below meth c cells slt Q dC dI ad Aa ls) :
    W p l e room_1 s m #[Value.ref b] below meth c H locs cells slt Q (F0 m 633 ls []) := by
  have hx := C.1
  have hb := C.2.1
  have hbA : ¬ (fun q : Nat => s.heap.size ≤ q) b := Nat.not_le.mpr hbl
  have hR : 62 ≤ room_1.frames ∧ 6200 ≤ room_1.locals := ⟨(Nat.le_of_ble_eq_true rfl), (Nat.le_of_ble_eq_true rfl)⟩
  obtain ⟨x, s1, s2, h1, h2, hi2⟩ := pair_l (p_chance _ _ _ : PAIR mX8_chance mX9_chance [vi (xs (i + 1)).toInt, vi (xs (i + 2)).toInt, vi (xs (i + 3)).toInt]) hi rfl
  refine lv_aload_n hx hb dL_law_633 rfl (lv_at hl 2 rfl) ?_
  refine arg_ld (j := 1) hx hb hl hX hbl hbA hS hL (by omega) (by decide) dL_law_634 dL_law_635 dL_law_636 dL_law_637 dL_law_638 ?_
  refine arg_ld (j := 2) hx hb hl hX hbl hbA hS hL (by omega) (by decide) dL_law_639 dL_law_640 dL_law_641 dL_law_642 dL_law_643 ?_
  refine arg_ld (j := 3) hx hb hl hX hbl hbA hS hL (by omega) (by decide) dL_law_644 dL_law_645 dL_law_646 dL_law_647 dL_law_648 ?_
  refine rm_l (as := [vi (xs (i + 1)).toInt, vi (xs (i + 2)).toInt, vi (xs (i + 3)).toInt]) (n := 3) (rest := []) C ⟨gvX8_chance, (gws_4 79 (by decide +kernel) (by decide +kernel)), by decide +kernel, by decide +kernel, rfl⟩ h1 (fun v hv => by simp only [List.mem_cons, List.not_mem_nil, or_false] at hv; rcases hv with rfl | rfl | rfl <;> exact r32_t _) hok rfl (Nat.le_of_ble_eq_true rfl) hP hS hR hcs hl.1 (Nat.le_of_ble_eq_true rfl) dL_law_649 (fun H locs hok hP hS => ?_)
  refine lv_aload_n hx hb dL_law_652 rfl (lv_at hl 1 rfl) ?_
  refine arg_ld (j := 1) hx hb hl hX hbl hbA hS hL (by omega) (by decide) dL_law_653 dL_law_654 dL_law_655 dL_law_656 dL_law_657 ?_
  refine arg_ld (j := 2) hx hb hl hX hbl hbA hS hL (by omega) (by decide) dL_law_658 dL_law_659 dL_law_660 dL_law_661 dL_law_662 ?_
  refine arg_ld (j := 3) hx hb hl hX hbl hbA hS hL (by omega) (by decide) dL_law_663 dL_law_664 dL_law_665 dL_law_666 dL_law_667 ?_
  refine rm_l (as := [vi (xs (i + 1)).toInt, vi (xs (i + 2)).toInt, vi (xs (i + 3)).toInt]) (n := 3) (rest := [.long (Int64.ofInt x)]) C ⟨gvX9_chance, (gws_6 70 (by decide +kernel) (by decide +kernel)), by decide +kernel, by decide +kernel, rfl⟩ h2 (fun v hv => by simp only [List.mem_cons, List.not_mem_nil, or_false] at hv; rcases hv with rfl | rfl | rfl <;> exact r32_t _) hok rfl (Nat.le_of_ble_eq_true rfl) hP hS hR hcs hl.1 (Nat.le_of_ble_eq_true rfl) dL_law_668 (fun H locs hok hP hS => ?_)
  refine W.lcmp hx hb dL_law_671 ?_
  refine lv_if_eq (tgt := 961) hx hb dL_law_672 (by decide) (fun _ => hN s2 H locs hi2 hok hP hS) (fun c9 => absurd ?_ c9)
  unfold lg_cmp
  rw [if_neg (fun q : Int64.ofInt x > Int64.ofInt x => Int64.lt_irrefl q), if_pos rfl]
