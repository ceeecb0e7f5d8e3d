/-! THE LAW 5: cases -/
set_option maxHeartbeats 4000000 in
set_option maxRecDepth 100000 in
theorem law_18 {p : Program} {l : Launch} {e : Env} {s : State} {m : MethodId} {below : List Frame} {meth : Method} {c : Code} {H : Heap} {locs : List Loc} {cells slt : Nat} {Q : State → Prop} {ls : Array Slot} {dC : Nat → ClassId} {dI : Nat → Nat → Nat} {ad : Nat → Nat → Nat} {nz : Value} {Aa : Nat → ClassId} {b L i : Nat} {xs : Nat → Int32} {σ : Sg} (C : RX p s m #[Value.ref b] c cL_law 4 R_law dC dI ad nz Aa (tyS Aa) prsA (fun q : Nat => s.heap.size ≤ q)) (hX : va_X b L xs s s.heap) (hbl : b < s.heap.size) (hL : L ≤ 3072) (hi6 : i + 6 ≤ L) (hcs : cells ≤ room_1.cells ∧ slt ≤ room_1.slots) (hl : lv_has ls 4 (lvL ad b i)) (hi : INV σ) (hok : okS σ) (hP : va_P (dC, dI) scl (wl ad Aa prsA σ) H) (hS : va_S (fun q : Nat => s.heap.size ≤ q) s.heap H locs) (hN : NXT p l e s m b below meth c cells slt Q dC dI ad Aa ls) :
    W p l e room_1 s m #[Value.ref b] below meth c H locs cells slt Q (F0 m 677 ls []) := by
  have hx := C.1
  have hb := C.2.1
  have hbA : ¬ (fun q : Nat => s.heap.size ≤ q) b := Nat.not_le.mpr hbl
  have hR : 62 ≤ room_1.frames ∧ 6200 ≤ room_1.locals := ⟨(Nat.le_of_ble_eq_true rfl), (Nat.le_of_ble_eq_true rfl)⟩
  obtain ⟨x, s1, s2, h1, h2, hi2⟩ := pair_i (p_image  : PAIR mX8_image mX9_image []) hi ⟨_, rfl, by decide⟩
  refine lv_aload_n hx hb dL_law_677 rfl (lv_at hl 2 rfl) ?_
  refine rm_i (as := []) (n := 0) (rest := []) C ⟨gvX8_image, (gws_4 87 (by decide +kernel) (by decide +kernel)), by decide +kernel, by decide +kernel, rfl⟩ h1 (fun v hv => by cases hv) hok rfl (Nat.le_of_ble_eq_true rfl) hP hS hR hcs hl.1 (Nat.le_of_ble_eq_true rfl) dL_law_678 (fun H locs hok hP hS => ?_)
  refine lv_aload_n hx hb dL_law_681 rfl (lv_at hl 1 rfl) ?_
  refine rm_i (as := []) (n := 0) (rest := [.int (Int32.ofInt x)]) C ⟨gvX9_image, (gws_6 76 (by decide +kernel) (by decide +kernel)), by decide +kernel, by decide +kernel, rfl⟩ h2 (fun v hv => by cases hv) hok rfl (Nat.le_of_ble_eq_true rfl) hP hS hR hcs hl.1 (Nat.le_of_ble_eq_true rfl) dL_law_682 (fun H locs hok hP hS => ?_)
  exact lv_icmp_eq (tgt := 961) hx hb dL_law_685 (by decide) (fun _ => hN s2 H locs hi2 hok hP hS) (fun c9 => absurd rfl c9)
set_option maxHeartbeats 4000000 in
set_option maxRecDepth 100000 in
theorem law_19 {p : Program} {l : Launch} {e : Env} {s : State} {m : MethodId} {below : List Frame} {meth : Method} {c : Code} {H : Heap} {locs : List Loc} {cells slt : Nat} {Q : State → Prop} {ls : Array Slot} {dC : Nat → ClassId} {dI : Nat → Nat → Nat} {ad : Nat → Nat → Nat} {nz : Value} {Aa : Nat → ClassId} {b L i : Nat} {xs : Nat → Int32} {σ : Sg} (C : RX p s m #[Value.ref b] c cL_law 4 R_law dC dI ad nz Aa (tyS Aa) prsA (fun q : Nat => s.heap.size ≤ q)) (hX : va_X b L xs s s.heap) (hbl : b < s.heap.size) (hL : L ≤ 3072) (hi6 : i + 6 ≤ L) (hcs : cells ≤ room_1.cells ∧ slt ≤ room_1.slots) (hl : lv_has ls 4 (lvL ad b i)) (hi : INV σ) (hok : okS σ) (hP : va_P (dC, dI) scl (wl ad Aa prsA σ) H) (hS : va_S (fun q : Nat => s.heap.size ≤ q) s.heap H locs) (hN : NXT p l e s m b below meth c cells slt Q dC dI ad Aa ls) :
    W p l e room_1 s m #[Value.ref b] below meth c H locs cells slt Q (F0 m 690 ls []) := by
  have hx := C.1
  have hb := C.2.1
  have hbA : ¬ (fun q : Nat => s.heap.size ≤ q) b := Nat.not_le.mpr hbl
  have hR : 62 ≤ room_1.frames ∧ 6200 ≤ room_1.locals := ⟨(Nat.le_of_ble_eq_true rfl), (Nat.le_of_ble_eq_true rfl)⟩
  obtain ⟨x, s1, s2, h1, h2, hi2⟩ := pair_i (p_back  : PAIR mX8_back mX9_back []) hi ⟨_, rfl, by decide⟩
  refine lv_aload_n hx hb dL_law_690 rfl (lv_at hl 2 rfl) ?_
  refine rm_i (as := []) (n := 0) (rest := []) C ⟨gvX8_back, (gws_4 98 (by decide +kernel) (by decide +kernel)), by decide +kernel, by decide +kernel, rfl⟩ h1 (fun v hv => by cases hv) hok rfl (Nat.le_of_ble_eq_true rfl) hP hS hR hcs hl.1 (Nat.le_of_ble_eq_true rfl) dL_law_691 (fun H locs hok hP hS => ?_)
  refine lv_aload_n hx hb dL_law_694 rfl (lv_at hl 1 rfl) ?_
  refine rm_i (as := []) (n := 0) (rest := [.int (Int32.ofInt x)]) C ⟨gvX9_back, (gws_6 80 (by decide +kernel) (by decide +kernel)), by decide +kernel, by decide +kernel, rfl⟩ h2 (fun v hv => by cases hv) hok rfl (Nat.le_of_ble_eq_true rfl) hP hS hR hcs hl.1 (Nat.le_of_ble_eq_true rfl) dL_law_695 (fun H locs hok hP hS => ?_)
  exact lv_icmp_eq (tgt := 961) hx hb dL_law_698 (by decide) (fun _ => hN s2 H locs hi2 hok hP hS) (fun c9 => absurd rfl c9)
set_option maxHeartbeats 4000000 in
set_option maxRecDepth 100000 in
theorem law_20 {p : Program} {l : Launch} {e : Env} {s : State} {m : MethodId} {below : List Frame} {meth : Method} {c : Code} {H : Heap} {locs : List Loc} {cells slt : Nat} {Q : State → Prop} {ls : Array Slot} {dC : Nat → ClassId} {dI : Nat → Nat → Nat} {ad : Nat → Nat → Nat} {nz : Value} {Aa : Nat → ClassId} {b L i : Nat} {xs : Nat → Int32} {σ : Sg} (C : RX p s m #[Value.ref b] c cL_law 4 R_law dC dI ad nz Aa (tyS Aa) prsA (fun q : Nat => s.heap.size ≤ q)) (hX : va_X b L xs s s.heap) (hbl : b < s.heap.size) (hL : L ≤ 3072) (hi6 : i + 6 ≤ L) (hcs : cells ≤ room_1.cells ∧ slt ≤ room_1.slots) (hl : lv_has ls 4 (lvL ad b i)) (hi : INV σ) (hok : okS σ) (hP : va_P (dC, dI) scl (wl ad Aa prsA σ) H) (hS : va_S (fun q : Nat => s.heap.size ≤ q) s.heap H locs) (hN : NXT p l e s m b below meth c cells slt Q dC dI ad Aa ls) :
    W p l e room_1 s m #[Value.ref b] below meth c H locs cells slt Q (F0 m 703 ls []) := by
  have hx := C.1
  have hb := C.2.1
  have hbA : ¬ (fun q : Nat => s.heap.size ≤ q) b := Nat.not_le.mpr hbl
  have hR : 62 ≤ room_1.frames ∧ 6200 ≤ room_1.locals := ⟨(Nat.le_of_ble_eq_true rfl), (Nat.le_of_ble_eq_true rfl)⟩
  obtain ⟨x, s1, s2, h1, h2, hi2⟩ := pair_i (p_count _ : PAIR mX8_count mX9_count [vi (xs (i + 1)).toInt]) hi ⟨_, rfl, by decide⟩
  refine lv_aload_n hx hb dL_law_703 rfl (lv_at hl 2 rfl) ?_
  refine arg_ld (j := 1) hx hb hl hX hbl hbA hS hL (by omega) (by decide) dL_law_704 dL_law_705 dL_law_706 dL_law_707 dL_law_708 ?_
  refine rm_i (as := [vi (xs (i + 1)).toInt]) (n := 1) (rest := []) C ⟨gvX8_count, (gws_4 116 (by decide +kernel) (by decide +kernel)), by decide +kernel, by decide +kernel, rfl⟩ h1 (fun v hv => by simp only [List.mem_cons, List.not_mem_nil, or_false] at hv; rcases hv with rfl <;> exact r32_t _) hok rfl (Nat.le_of_ble_eq_true rfl) hP hS hR hcs hl.1 (Nat.le_of_ble_eq_true rfl) dL_law_709 (fun H locs hok hP hS => ?_)
  refine lv_aload_n hx hb dL_law_712 rfl (lv_at hl 1 rfl) ?_
  refine arg_ld (j := 1) hx hb hl hX hbl hbA hS hL (by omega) (by decide) dL_law_713 dL_law_714 dL_law_715 dL_law_716 dL_law_717 ?_
  refine rm_i (as := [vi (xs (i + 1)).toInt]) (n := 1) (rest := [.int (Int32.ofInt x)]) C ⟨gvX9_count, (gws_6 84 (by decide +kernel) (by decide +kernel)), by decide +kernel, by decide +kernel, rfl⟩ h2 (fun v hv => by simp only [List.mem_cons, List.not_mem_nil, or_false] at hv; rcases hv with rfl <;> exact r32_t _) hok rfl (Nat.le_of_ble_eq_true rfl) hP hS hR hcs hl.1 (Nat.le_of_ble_eq_true rfl) dL_law_718 (fun H locs hok hP hS => ?_)
  exact lv_icmp_eq (tgt := 961) hx hb dL_law_721 (by decide) (fun _ => hN s2 H locs hi2 hok hP hS) (fun c9 => absurd rfl c9)
set_option maxHeartbeats 4000000 in
set_option maxRecDepth 100000 in
theorem law_21 {p : Program} {l : Launch} {e : Env} {s : State} {m : MethodId} {below : List Frame} {meth : Method} {c : Code} {H : Heap} {locs : List Loc} {cells slt : Nat} {Q : State → Prop} {ls : Array Slot} {dC : Nat → ClassId} {dI : Nat → Nat → Nat} {ad : Nat → Nat → Nat} {nz : Value} {Aa : Nat → ClassId} {b L i : Nat} {xs : Nat → Int32} {σ : Sg} (C : RX p s m #[Value.ref b] c cL_law 4 R_law dC dI ad nz Aa (tyS Aa) prsA (fun q : Nat => s.heap.size ≤ q)) (hX : va_X b L xs s s.heap) (hbl : b < s.heap.size) (hL : L ≤ 3072) (hi6 : i + 6 ≤ L) (hcs : cells ≤ room_1.cells ∧ slt ≤ room_1.slots) (hl : lv_has ls 4 (lvL ad b i)) (hi : INV σ) (hok : okS σ) (hP : va_P (dC, dI) scl (wl ad Aa prsA σ) H) (hS : va_S (fun q : Nat => s.heap.size ≤ q) s.heap H locs) (hN : NXT p l e s m b below meth c cells slt Q dC dI ad Aa ls) :
    W p l e room_1 s m #[Value.ref b] below meth c H locs cells slt Q (F0 m 726 ls []) := by
  have hx := C.1
  have hb := C.2.1
  have hbA : ¬ (fun q : Nat => s.heap.size ≤ q) b := Nat.not_le.mpr hbl
  have hR : 62 ≤ room_1.frames ∧ 6200 ≤ room_1.locals := ⟨(Nat.le_of_ble_eq_true rfl), (Nat.le_of_ble_eq_true rfl)⟩
  obtain ⟨x, s1, s2, h1, h2, hi2⟩ := pair_i (p_sheet _ _ _ : PAIR mX8_sheet mX9_sheet [vi (xs (i + 1)).toInt, vi (xs (i + 2)).toInt, vi (xs (i + 3)).toInt]) hi ⟨_, rfl, by decide⟩
  refine lv_aload_n hx hb dL_law_726 rfl (lv_at hl 2 rfl) ?_
  refine arg_ld (j := 1) hx hb hl hX hbl hbA hS hL (by omega) (by decide) dL_law_727 dL_law_728 dL_law_729 dL_law_730 dL_law_731 ?_
  refine arg_ld (j := 2) hx hb hl hX hbl hbA hS hL (by omega) (by decide) dL_law_732 dL_law_733 dL_law_734 dL_law_735 dL_law_736 ?_
  refine arg_ld (j := 3) hx hb hl hX hbl hbA hS hL (by omega) (by decide) dL_law_737 dL_law_738 dL_law_739 dL_law_740 dL_law_741 ?_
  refine rm_i (as := [vi (xs (i + 1)).toInt, vi (xs (i + 2)).toInt, vi (xs (i + 3)).toInt]) (n := 3) (rest := []) C ⟨gvX8_sheet, (gws_4 120 (by decide +kernel) (by decide +kernel)), by decide +kernel, by decide +kernel, rfl⟩ h1 (fun v hv => by simp only [List.mem_cons, List.not_mem_nil, or_false] at hv; rcases hv with rfl | rfl | rfl <;> exact r32_t _) hok rfl (Nat.le_of_ble_eq_true rfl) hP hS hR hcs hl.1 (Nat.le_of_ble_eq_true rfl) dL_law_742 (fun H locs hok hP hS => ?_)
  refine lv_aload_n hx hb dL_law_745 rfl (lv_at hl 1 rfl) ?_
  refine arg_ld (j := 1) hx hb hl hX hbl hbA hS hL (by omega) (by decide) dL_law_746 dL_law_747 dL_law_748 dL_law_749 dL_law_750 ?_
  refine arg_ld (j := 2) hx hb hl hX hbl hbA hS hL (by omega) (by decide) dL_law_751 dL_law_752 dL_law_753 dL_law_754 dL_law_755 ?_
  refine arg_ld (j := 3) hx hb hl hX hbl hbA hS hL (by omega) (by decide) dL_law_756 dL_law_757 dL_law_758 dL_law_759 dL_law_760 ?_
  refine rm_i (as := [vi (xs (i + 1)).toInt, vi (xs (i + 2)).toInt, vi (xs (i + 3)).toInt]) (n := 3) (rest := [.int (Int32.ofInt x)]) C ⟨gvX9_sheet, (gws_6 88 (by decide +kernel) (by decide +kernel)), by decide +kernel, by decide +kernel, rfl⟩ h2 (fun v hv => by simp only [List.mem_cons, List.not_mem_nil, or_false] at hv; rcases hv with rfl | rfl | rfl <;> exact r32_t _) hok rfl (Nat.le_of_ble_eq_true rfl) hP hS hR hcs hl.1 (Nat.le_of_ble_eq_true rfl) dL_law_761 (fun H locs hok hP hS => ?_)
  exact lv_icmp_eq (tgt := 961) hx hb dL_law_764 (by decide) (fun _ => hN s2 H locs hi2 hok hP hS) (fun c9 => absurd rfl c9)
set_option maxHeartbeats 4000000 in
set_option maxRecDepth 100000 in
theorem law_22 {p : Program} {l : Launch} {e : Env} {s : State} {m : MethodId} {below : List Frame} {meth : Method} {c : Code} {H : Heap} {locs : List Loc} {cells slt : Nat} {Q : State → Prop} {ls : Array Slot} {dC : Nat → ClassId} {dI : Nat → Nat → Nat} {ad : Nat → Nat → Nat} {nz : Value} {Aa : Nat → ClassId} {b L i : Nat} {xs : Nat → Int32} {σ : Sg} (C : RX p s m #[Value.ref b] c cL_law 4 R_law dC dI ad nz Aa (tyS Aa) prsA (fun q : Nat => s.heap.size ≤ q)) (hX : va_X b L xs s s.heap) (hbl : b < s.heap.size) (hL : L ≤ 3072) (hi6 : i + 6 ≤ L) (hcs : cells ≤ room_1.cells ∧ slt ≤ room_1.slots) (hl : lv_has ls 4 (lvL ad b i)) (hi : INV σ) (hok : okS σ) (hP : va_P (dC, dI) scl (wl ad Aa prsA σ) H) (hS : va_S (fun q : Nat => s.heap.size ≤ q) s.heap H locs) (hN : NXT p l e s m b below meth c cells slt Q dC dI ad Aa ls) :
    W p l e room_1 s m #[Value.ref b] below meth c H locs cells slt Q (F0 m 769 ls []) := by
  have hx := C.1
  have hb := C.2.1
  have hbA : ¬ (fun q : Nat => s.heap.size ≤ q) b := Nat.not_le.mpr hbl
  have hR : 62 ≤ room_1.frames ∧ 6200 ≤ room_1.locals := ⟨(Nat.le_of_ble_eq_true rfl), (Nat.le_of_ble_eq_true rfl)⟩
  obtain ⟨x, s1, s2, h1, h2, hi2⟩ := pair_i (p_cell _ _ _ : PAIR mX8_cell mX9_cell [vi (xs (i + 1)).toInt, vi (xs (i + 2)).toInt, vi (xs (i + 3)).toInt]) hi ⟨_, rfl, by decide⟩
  refine lv_aload_n hx hb dL_law_769 rfl (lv_at hl 2 rfl) ?_
  refine arg_ld (j := 1) hx hb hl hX hbl hbA hS hL (by omega) (by decide) dL_law_770 dL_law_771 dL_law_772 dL_law_773 dL_law_774 ?_
  refine arg_ld (j := 2) hx hb hl hX hbl hbA hS hL (by omega) (by decide) dL_law_775 dL_law_776 dL_law_777 dL_law_778 dL_law_779 ?_
  refine arg_ld (j := 3) hx hb hl hX hbl hbA hS hL (by omega) (by decide) dL_law_780 dL_law_781 dL_law_782 dL_law_783 dL_law_784 ?_
  refine rm_i (as := [vi (xs (i + 1)).toInt, vi (xs (i + 2)).toInt, vi (xs (i + 3)).toInt]) (n := 3) (rest := []) C ⟨gvX8_cell, (gws_4 124 (by decide +kernel) (by decide +kernel)), by decide +kernel, by decide +kernel, rfl⟩ h1 (fun v hv => by simp only [List.mem_cons, List.not_mem_nil, or_false] at hv; rcases hv with rfl | rfl | rfl <;> exact r32_t _) hok rfl (Nat.le_of_ble_eq_true rfl) hP hS hR hcs hl.1 (Nat.le_of_ble_eq_true rfl) dL_law_785 (fun H locs hok hP hS => ?_)
  refine lv_aload_n hx hb dL_law_788 rfl (lv_at hl 1 rfl) ?_
  refine arg_ld (j := 1) hx hb hl hX hbl hbA hS hL (by omega) (by decide) dL_law_789 dL_law_790 dL_law_791 dL_law_792 dL_law_793 ?_
  refine arg_ld (j := 2) hx hb hl hX hbl hbA hS hL (by omega) (by decide) dL_law_794 dL_law_795 dL_law_796 dL_law_797 dL_law_798 ?_
  refine arg_ld (j := 3) hx hb hl hX hbl hbA hS hL (by omega) (by decide) dL_law_799 dL_law_800 dL_law_801 dL_law_802 dL_law_803 ?_
  refine rm_i (as := [vi (xs (i + 1)).toInt, vi (xs (i + 2)).toInt, vi (xs (i + 3)).toInt]) (n := 3) (rest := [.int (Int32.ofInt x)]) C ⟨gvX9_cell, (gws_6 89 (by decide +kernel) (by decide +kernel)), by decide +kernel, by decide +kernel, rfl⟩ h2 (fun v hv => by simp only [List.mem_cons, List.not_mem_nil, or_false] at hv; rcases hv with rfl | rfl | rfl <;> exact r32_t _) hok rfl (Nat.le_of_ble_eq_true rfl) hP hS hR hcs hl.1 (Nat.le_of_ble_eq_true rfl) dL_law_804 (fun H locs hok hP hS => ?_)
  exact lv_icmp_eq (tgt := 961) hx hb dL_law_807 (by decide) (fun _ => hN s2 H locs hi2 hok hP hS) (fun c9 => absurd rfl c9)
set_option maxHeartbeats 4000000 in
set_option maxRecDepth 100000 in
theorem law_23 {p : Program} {l : Launch} {e : Env} {s : State} {m : MethodId} {below : List Frame} {meth : Method} {c : Code} {H : Heap} {locs : List Loc} {cells slt : Nat} {Q : State → Prop} {ls : Array Slot} {dC : Nat → ClassId} {dI : Nat → Nat → Nat} {ad : Nat → Nat → Nat} {nz : Value} {Aa : Nat → ClassId} {b L i : Nat} {xs : Nat → Int32} {σ : Sg} (C : RX p s m #[Value.ref b] c cL_law 4 R_law dC dI ad nz Aa (tyS Aa) prsA (fun q : Nat => s.heap.size ≤ q)) (hX : va_X b L xs s s.heap) (hbl : b < s.heap.size) (hL : L ≤ 3072) (hi6 : i + 6 ≤ L) (hcs : cells ≤ room_1.cells ∧ slt ≤ room_1.slots) (hl : lv_has ls 4 (lvL ad b i)) (hi : INV σ) (hok : okS σ) (hP : va_P (dC, dI) scl (wl ad Aa prsA σ) H) (hS : va_S (fun q : Nat => s.heap.size ≤ q) s.heap H locs) (hN : NXT p l e s m b below meth c cells slt Q dC dI ad Aa ls) :
    W p l e room_1 s m #[Value.ref b] below meth c H locs cells slt Q (F0 m 812 ls []) := by
  have hx := C.1
  have hb := C.2.1
  have hbA : ¬ (fun q : Nat => s.heap.size ≤ q) b := Nat.not_le.mpr hbl
  have hR : 62 ≤ room_1.frames ∧ 6200 ≤ room_1.locals := ⟨(Nat.le_of_ble_eq_true rfl), (Nat.le_of_ble_eq_true rfl)⟩
  obtain ⟨x, s1, s2, h1, h2, hi2⟩ := pair_i (p_copy _ _ _ _ _ ⟨r32_t _, r32_t _, r32_t _⟩ : PAIR mX8_copy mX9_copy [vi (xs (i + 1)).toInt, vi (xs (i + 2)).toInt, vi (xs (i + 3)).toInt, vi (xs (i + 4)).toInt, vi (xs (i + 5)).toInt]) hi ⟨_, rfl, by decide⟩
  refine lv_aload_n hx hb dL_law_812 rfl (lv_at hl 2 rfl) ?_
  refine arg_ld (j := 1) hx hb hl hX hbl hbA hS hL (by omega) (by decide) dL_law_813 dL_law_814 dL_law_815 dL_law_816 dL_law_817 ?_
  refine arg_ld (j := 2) hx hb hl hX hbl hbA hS hL (by omega) (by decide) dL_law_818 dL_law_819 dL_law_820 dL_law_821 dL_law_822 ?_
  refine arg_ld (j := 3) hx hb hl hX hbl hbA hS hL (by omega) (by decide) dL_law_823 dL_law_824 dL_law_825 dL_law_826 dL_law_827 ?_
  refine arg_ld (j := 4) hx hb hl hX hbl hbA hS hL (by omega) (by decide) dL_law_828 dL_law_829 dL_law_830 dL_law_831 dL_law_832 ?_
  refine arg_ld (j := 5) hx hb hl hX hbl hbA hS hL (by omega) (by decide) dL_law_833 dL_law_834 dL_law_835 dL_law_836 dL_law_837 ?_
  refine rm_i (as := [vi (xs (i + 1)).toInt, vi (xs (i + 2)).toInt, vi (xs (i + 3)).toInt, vi (xs (i + 4)).toInt, vi (xs (i + 5)).toInt]) (n := 5) (rest := []) C ⟨gvX8_copy, (gws_4 128 (by decide +kernel) (by decide +kernel)), by decide +kernel, by decide +kernel, rfl⟩ h1 (fun v hv => by simp only [List.mem_cons, List.not_mem_nil, or_false] at hv; rcases hv with rfl | rfl | rfl | rfl | rfl <;> exact r32_t _) hok rfl (Nat.le_of_ble_eq_true rfl) hP hS hR hcs hl.1 (Nat.le_of_ble_eq_true rfl) dL_law_838 (fun H locs hok hP hS => ?_)
  refine lv_aload_n hx hb dL_law_841 rfl (lv_at hl 1 rfl) ?_
  refine arg_ld (j := 1) hx hb hl hX hbl hbA hS hL (by omega) (by decide) dL_law_842 dL_law_843 dL_law_844 dL_law_845 dL_law_846 ?_
  refine arg_ld (j := 2) hx hb hl hX hbl hbA hS hL (by omega) (by decide) dL_law_847 dL_law_848 dL_law_849 dL_law_850 dL_law_851 ?_
  refine arg_ld (j := 3) hx hb hl hX hbl hbA hS hL (by omega) (by decide) dL_law_852 dL_law_853 dL_law_854 dL_law_855 dL_law_856 ?_
  refine arg_ld (j := 4) hx hb hl hX hbl hbA hS hL (by omega) (by decide) dL_law_857 dL_law_858 dL_law_859 dL_law_860 dL_law_861 ?_
  refine arg_ld (j := 5) hx hb hl hX hbl hbA hS hL (by omega) (by decide) dL_law_862 dL_law_863 dL_law_864 dL_law_865 dL_law_866 ?_
  refine rm_i (as := [vi (xs (i + 1)).toInt, vi (xs (i + 2)).toInt, vi (xs (i + 3)).toInt, vi (xs (i + 4)).toInt, vi (xs (i + 5)).toInt]) (n := 5) (rest := [.int (Int32.ofInt x)]) C ⟨gvX9_copy, (gws_6 93 (by decide +kernel) (by decide +kernel)), by decide +kernel, by decide +kernel, rfl⟩ h2 (fun v hv => by simp only [List.mem_cons, List.not_mem_nil, or_false] at hv; rcases hv with rfl | rfl | rfl | rfl | rfl <;> exact r32_t _) hok rfl (Nat.le_of_ble_eq_true rfl) hP hS hR hcs hl.1 (Nat.le_of_ble_eq_true rfl) dL_law_867 (fun H locs hok hP hS => ?_)
  exact lv_icmp_eq (tgt := 961) hx hb dL_law_870 (by decide) (fun _ => hN s2 H locs hi2 hok hP hS) (fun c9 => absurd rfl c9)
set_option maxHeartbeats 4000000 in
set_option maxRecDepth 100000 in
theorem law_24 {p : Program} {l : Launch} {e : Env} {s : State} {m : MethodId} {below : List Frame} {meth : Method} {c : Code} {H : Heap} {locs : List Loc} {cells slt : Nat} {Q : State → Prop} {ls : Array Slot} {dC : Nat → ClassId} {dI : Nat → Nat → Nat} {ad : Nat → Nat → Nat} {nz : Value} {Aa : Nat → ClassId} {b L i : Nat} {xs : Nat → Int32} {σ : Sg} (C : RX p s m #[Value.ref b] c cL_law 4 R_law dC dI ad nz Aa (tyS Aa) prsA (fun q : Nat => s.heap.size ≤ q)) (hX : va_X b L xs s s.heap) (hbl : b < s.heap.size) (hL : L ≤ 3072) (hi6 : i + 6 ≤ L) (hcs : cells ≤ room_1.cells ∧ slt ≤ room_1.slots) (hl : lv_has ls 4 (lvL ad b i)) (hi : INV σ) (hok : okS σ) (hP : va_P (dC, dI) scl (wl ad Aa prsA σ) H) (hS : va_S (fun q : Nat => s.heap.size ≤ q) s.heap H locs) (hN : NXT p l e s m b below meth c cells slt Q dC dI ad Aa ls) :
    W p l e room_1 s m #[Value.ref b] below meth c H locs cells slt Q (F0 m 875 ls []) := by
  have hx := C.1
  have hb := C.2.1
  have hbA : ¬ (fun q : Nat => s.heap.size ≤ q) b := Nat.not_le.mpr hbl
  have hR : 62 ≤ room_1.frames ∧ 6200 ≤ room_1.locals := ⟨(Nat.le_of_ble_eq_true rfl), (Nat.le_of_ble_eq_true rfl)⟩
  obtain ⟨x, s1, s2, h1, h2, hi2⟩ := pair_i (p_cars _ _ _ _ : PAIR mX8_cars mX9_cars [vi (xs (i + 1)).toInt, vi (xs (i + 2)).toInt, vi (xs (i + 3)).toInt, vi (xs (i + 4)).toInt]) hi ⟨_, rfl, by decide⟩
  refine lv_aload_n hx hb dL_law_875 rfl (lv_at hl 2 rfl) ?_
  refine arg_ld (j := 1) hx hb hl hX hbl hbA hS hL (by omega) (by decide) dL_law_876 dL_law_877 dL_law_878 dL_law_879 dL_law_880 ?_
  refine arg_ld (j := 2) hx hb hl hX hbl hbA hS hL (by omega) (by decide) dL_law_881 dL_law_882 dL_law_883 dL_law_884 dL_law_885 ?_
  refine arg_ld (j := 3) hx hb hl hX hbl hbA hS hL (by omega) (by decide) dL_law_886 dL_law_887 dL_law_888 dL_law_889 dL_law_890 ?_
  refine arg_ld (j := 4) hx hb hl hX hbl hbA hS hL (by omega) (by decide) dL_law_891 dL_law_892 dL_law_893 dL_law_894 dL_law_895 ?_
  refine rm_i (as := [vi (xs (i + 1)).toInt, vi (xs (i + 2)).toInt, vi (xs (i + 3)).toInt, vi (xs (i + 4)).toInt]) (n := 4) (rest := []) C ⟨gvX8_cars, (gws_4 148 (by decide +kernel) (by decide +kernel)), by decide +kernel, by decide +kernel, rfl⟩ h1 (fun v hv => by simp only [List.mem_cons, List.not_mem_nil, or_false] at hv; rcases hv with rfl | rfl | rfl | rfl <;> exact r32_t _) hok rfl (Nat.le_of_ble_eq_true rfl) hP hS hR hcs hl.1 (Nat.le_of_ble_eq_true rfl) dL_law_896 (fun H locs hok hP hS => ?_)
  refine lv_aload_n hx hb dL_law_899 rfl (lv_at hl 1 rfl) ?_
  refine arg_ld (j := 1) hx hb hl hX hbl hbA hS hL (by omega) (by decide) dL_law_900 dL_law_901 dL_law_902 dL_law_903 dL_law_904 ?_
  refine arg_ld (j := 2) hx hb hl hX hbl hbA hS hL (by omega) (by decide) dL_law_905 dL_law_906 dL_law_907 dL_law_908 dL_law_909 ?_
  refine arg_ld (j := 3) hx hb hl hX hbl hbA hS hL (by omega) (by decide) dL_law_910 dL_law_911 dL_law_912 dL_law_913 dL_law_914 ?_
  refine arg_ld (j := 4) hx hb hl hX hbl hbA hS hL (by omega) (by decide) dL_law_915 dL_law_916 dL_law_917 dL_law_918 dL_law_919 ?_
  refine rm_i (as := [vi (xs (i + 1)).toInt, vi (xs (i + 2)).toInt, vi (xs (i + 3)).toInt, vi (xs (i + 4)).toInt]) (n := 4) (rest := [.int (Int32.ofInt x)]) C ⟨gvX9_cars, (gws_6 97 (by decide +kernel) (by decide +kernel)), by decide +kernel, by decide +kernel, rfl⟩ h2 (fun v hv => by simp only [List.mem_cons, List.not_mem_nil, or_false] at hv; rcases hv with rfl | rfl | rfl | rfl <;> exact r32_t _) hok rfl (Nat.le_of_ble_eq_true rfl) hP hS hR hcs hl.1 (Nat.le_of_ble_eq_true rfl) dL_law_920 (fun H locs hok hP hS => ?_)
  exact lv_icmp_eq (tgt := 961) hx hb dL_law_923 (by decide) (fun _ => hN s2 H locs hi2 hok hP hS) (fun c9 => absurd rfl c9)
set_option maxHeartbeats 4000000 in
set_option maxRecDepth 100000 in
theorem law_25 {p : Program} {l : Launch} {e : Env} {s : State} {m : MethodId} {below : List Frame} {meth : Method} {c : Code} {H : Heap} {locs : List Loc} {cells slt : Nat} {Q : State → Prop} {ls : Array Slot} {dC : Nat → ClassId} {dI : Nat → Nat → Nat} {ad : Nat → Nat → Nat} {nz : Value} {Aa : Nat → ClassId} {b L i : Nat} {xs : Nat → Int32} {σ : Sg} (C : RX p s m #[Value.ref b] c cL_law 4 R_law dC dI ad nz Aa (tyS Aa) prsA (fun q : Nat => s.heap.size ≤ q)) (hX : va_X b L xs s s.heap) (hbl : b < s.heap.size) (hL : L ≤ 3072) (hi6 : i + 6 ≤ L) (hcs : cells ≤ room_1.cells ∧ slt ≤ room_1.slots) (hl : lv_has ls 4 (lvL ad b i)) (hi : INV σ) (hok : okS σ) (hP : va_P (dC, dI) scl (wl ad Aa prsA σ) H) (hS : va_S (fun q : Nat => s.heap.size ≤ q) s.heap H locs) (hN : NXT p l e s m b below meth c cells slt Q dC dI ad Aa ls) :
    W p l e room_1 s m #[Value.ref b] below meth c H locs cells slt Q (F0 m 928 ls []) := by
  have hx := C.1
  have hb := C.2.1
  have hbA : ¬ (fun q : Nat => s.heap.size ≤ q) b := Nat.not_le.mpr hbl
  have hR : 62 ≤ room_1.frames ∧ 6200 ≤ room_1.locals := ⟨(Nat.le_of_ble_eq_true rfl), (Nat.le_of_ble_eq_true rfl)⟩
  obtain ⟨x, s1, s2, h1, h2, hi2⟩ := pair_i (p_taken _ _ : PAIR mX8_taken mX9_taken [vi (xs (i + 1)).toInt, vi (xs (i + 2)).toInt]) hi ⟨_, rfl, by decide⟩
  refine lv_aload_n hx hb dL_law_928 rfl (lv_at hl 2 rfl) ?_
  refine arg_ld (j := 1) hx hb hl hX hbl hbA hS hL (by omega) (by decide) dL_law_929 dL_law_930 dL_law_931 dL_law_932 dL_law_933 ?_
  refine arg_ld (j := 2) hx hb hl hX hbl hbA hS hL (by omega) (by decide) dL_law_934 dL_law_935 dL_law_936 dL_law_937 dL_law_938 ?_
  refine rm_i (as := [vi (xs (i + 1)).toInt, vi (xs (i + 2)).toInt]) (n := 2) (rest := []) C ⟨gvX8_taken, (gws_4 153 (by decide +kernel) (by decide +kernel)), by decide +kernel, by decide +kernel, rfl⟩ h1 (fun v hv => by simp only [List.mem_cons, List.not_mem_nil, or_false] at hv; rcases hv with rfl | rfl <;> exact r32_t _) hok rfl (Nat.le_of_ble_eq_true rfl) hP hS hR hcs hl.1 (Nat.le_of_ble_eq_true rfl) dL_law_939 (fun H locs hok hP hS => ?_)
  refine lv_aload_n hx hb dL_law_942 rfl (lv_at hl 1 rfl) ?_
  refine arg_ld (j := 1) hx hb hl hX hbl hbA hS hL (by omega) (by decide) dL_law_943 dL_law_944 dL_law_945 dL_law_946 dL_law_947 ?_
  refine arg_ld (j := 2) hx hb hl hX hbl hbA hS hL (by omega) (by decide) dL_law_948 dL_law_949 dL_law_950 dL_law_951 dL_law_952 ?_
  refine rm_i (as := [vi (xs (i + 1)).toInt, vi (xs (i + 2)).toInt]) (n := 2) (rest := [.int (Int32.ofInt x)]) C ⟨gvX9_taken, (gws_6 103 (by decide +kernel) (by decide +kernel)), by decide +kernel, by decide +kernel, rfl⟩ h2 (fun v hv => by simp only [List.mem_cons, List.not_mem_nil, or_false] at hv; rcases hv with rfl | rfl <;> exact r32_t _) hok rfl (Nat.le_of_ble_eq_true rfl) hP hS hR hcs hl.1 (Nat.le_of_ble_eq_true rfl) dL_law_953 (fun H locs hok hP hS => ?_)
  exact lv_icmp_eq (tgt := 961) hx hb dL_law_956 (by decide) (fun _ => hN s2 H locs hi2 hok hP hS) (fun c9 => absurd rfl c9)
