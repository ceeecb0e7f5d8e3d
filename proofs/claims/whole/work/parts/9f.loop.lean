/-! THE LAW 6: its loop -/
theorem gt_k {i L : Nat} (hi : i ≤ 4000) (hL : L ≤ 3072) : Int32.ofNat L - 6 < Int32.ofNat i ↔ L < i + 6 := by
  have e1 : Int32.ofNat L - 6 = Int32.ofInt ((L : Int) - 6) := by
    rw [Int32.ofInt_sub, Int32.ofInt_eq_ofNat]
    rfl
  have e2 : Int32.ofNat i = Int32.ofInt (i : Int) := (Int32.ofInt_eq_ofNat).symm
  rw [e1, e2, i32_lt (by constructor <;> omega) (by constructor <;> omega)]
  omega
set_option maxHeartbeats 4000000 in
set_option maxRecDepth 100000 in
theorem law_loop {p : Program} {l : Launch} {e : Env} {s : State} {m : MethodId} {below : List Frame} {meth : Method} {c : Code} {cells slt : Nat} {dC : Nat → ClassId} {dI : Nat → Nat → Nat} {ad : Nat → Nat → Nat} {nz : Value} {Aa : Nat → ClassId} {b L : Nat} {xs : Nat → Int32} {Q : State → Prop} (C : RX p s m #[Value.ref b] c cL_law 4 R_law dC dI ad nz Aa (tyS Aa) prsA (fun q : Nat => s.heap.size ≤ q)) (hX : va_X b L xs s s.heap) (hbl : b < s.heap.size) (hL : L ≤ 3072) (hcs : cells ≤ room_1.cells ∧ slt ≤ room_1.slots)
    (hend : ∀ (H : Heap) (locs : List Loc) (ls : Array Slot), va_S (fun q : Nat => s.heap.size ≤ q) s.heap H locs → W p l e room_1 s m #[Value.ref b] below meth c H locs cells slt Q (F0 m 967 ls [])) :
    ∀ (n i : Nat), L < i + n → i ≤ 4000 → ∀ (σ : Sg) (H : Heap) (locs : List Loc) (ls : Array Slot), INV σ → okS σ → va_P (dC, dI) scl (wl ad Aa prsA σ) H → va_S (fun q : Nat => s.heap.size ≤ q) s.heap H locs → lv_has ls 4 (lvL ad b i) → W p l e room_1 s m #[Value.ref b] below meth c H locs cells slt Q (F0 m 18 ls []) := by
  have hx := C.1
  have hb := C.2.1
  have hbA : ¬ (fun q : Nat => s.heap.size ≤ q) b := Nat.not_le.mpr hbl
  intro n
  induction n with
  | zero =>
    intro i hn h4 σ H locs ls hi hok hP hS hl
    refine lv_iload_n hx hb dL_law_18 rfl (lv_at hl 0 rfl) ?_
    refine lv_aload_n hx hb dL_law_19 rfl (lv_at hl 3 rfl) ?_
    refine va_slen hx hb hX hbl hbA hS dL_law_20 ?_
    refine lv_bipush (v := 6) hx hb dL_law_21 (by decide) ?_
    refine lv_isub hx hb dL_law_23 ?_
    exact lv_icmp_gt (tgt := 967) hx hb dL_law_24 (by decide) (fun _ => hend H locs ls hS) (fun c9 => absurd ((gt_k h4 hL).mpr (by omega)) c9)
  | succ n ih =>
    intro i hn h4 σ H locs ls hi hok hP hS hl
    refine lv_iload_n hx hb dL_law_18 rfl (lv_at hl 0 rfl) ?_
    refine lv_aload_n hx hb dL_law_19 rfl (lv_at hl 3 rfl) ?_
    refine va_slen hx hb hX hbl hbA hS dL_law_20 ?_
    refine lv_bipush (v := 6) hx hb dL_law_21 (by decide) ?_
    refine lv_isub hx hb dL_law_23 ?_
    refine lv_icmp_gt (tgt := 967) hx hb dL_law_24 (by decide) (fun _ => hend H locs ls hS) (fun c9 => ?_)
    have hlt : i + 6 ≤ L := Nat.not_lt.mp (fun z => c9 ((gt_k h4 hL).mpr z))
    have hN : NXT p l e s m b below meth c cells slt Q dC dI ad Aa ls := by
      intro σ H locs hi hok hP hS
      refine lv_iinc (v := Int32.ofNat (i + 6)) (lv' := lvL ad b (i + 6)) hx hb dL_law_961 hl (k := 0) rfl ?_ (by decide) rfl (fun ls hl => ?_)
      · rw [Int32.ofNat_add]
        rfl
      · refine lv_goto (tgt := 18) hx hb dL_law_964 (by decide) ?_
        exact ih (i + 6) (by omega) (by omega) σ H locs ls hi hok hP hS hl
    refine lv_aload_n hx hb dL_law_27 rfl (lv_at hl 3 rfl) ?_
    refine lv_iload_n hx hb dL_law_28 rfl (lv_at hl 0 rfl) ?_
    have h0 := (ix_add (i := i) (j := 0) (L := L) rfl (by omega) hL).1
    rw [show Int32.ofNat i + Int32.ofNat 0 = Int32.ofNat i from by rw [← Int32.ofNat_add, Nat.add_zero]] at h0
    refine va_sld hx hb hX hbl hbA hS h0 dL_law_29 ?_
    refine lv_bipush (v := 31) hx hb dL_law_30 (by decide) ?_
    refine lv_iand hx hb dL_law_32 ?_
    refine lv_topi (fun z _ => ?_)
    by_cases h0 : z.toInt = 0
    · exact lv_tableIn (off := 119) (tgt := 152) hx hb dL_law_33 (by rw [h0]; decide) (by rw [h0]; decide) (by rw [h0]; rfl) (by decide) (law_0 C hX hbl hL hlt hcs hl hi hok hP hS hN)
    by_cases h1 : z.toInt = 1
    · exact lv_tableIn (off := 162) (tgt := 195) hx hb dL_law_33 (by rw [h1]; decide) (by rw [h1]; decide) (by rw [h1]; rfl) (by decide) (law_1 C hX hbl hL hlt hcs hl hi hok hP hS hN)
    by_cases h2 : z.toInt = 2
    · exact lv_tableIn (off := 205) (tgt := 238) hx hb dL_law_33 (by rw [h2]; decide) (by rw [h2]; decide) (by rw [h2]; rfl) (by decide) (law_2 C hX hbl hL hlt hcs hl hi hok hP hS hN)
    by_cases h3 : z.toInt = 3
    · exact lv_tableIn (off := 238) (tgt := 271) hx hb dL_law_33 (by rw [h3]; decide) (by rw [h3]; decide) (by rw [h3]; rfl) (by decide) (law_3 C hX hbl hL hlt hcs hl hi hok hP hS hN)
    by_cases h4 : z.toInt = 4
    · exact lv_tableIn (off := 261) (tgt := 294) hx hb dL_law_33 (by rw [h4]; decide) (by rw [h4]; decide) (by rw [h4]; rfl) (by decide) (law_4 C hX hbl hL hlt hcs hl hi hok hP hS hN)
    by_cases h5 : z.toInt = 5
    · exact lv_tableIn (off := 274) (tgt := 307) hx hb dL_law_33 (by rw [h5]; decide) (by rw [h5]; decide) (by rw [h5]; rfl) (by decide) (law_5 C hX hbl hL hlt hcs hl hi hok hP hS hN)
    by_cases h6 : z.toInt = 6
    · exact lv_tableIn (off := 297) (tgt := 330) hx hb dL_law_33 (by rw [h6]; decide) (by rw [h6]; decide) (by rw [h6]; rfl) (by decide) (law_6 C hX hbl hL hlt hcs hl hi hok hP hS hN)
    by_cases h7 : z.toInt = 7
    · exact lv_tableIn (off := 330) (tgt := 363) hx hb dL_law_33 (by rw [h7]; decide) (by rw [h7]; decide) (by rw [h7]; rfl) (by decide) (law_7 C hX hbl hL hlt hcs hl hi hok hP hS hN)
    by_cases h8 : z.toInt = 8
    · exact lv_tableIn (off := 373) (tgt := 406) hx hb dL_law_33 (by rw [h8]; decide) (by rw [h8]; decide) (by rw [h8]; rfl) (by decide) (law_8 C hX hbl hL hlt hcs hl hi hok hP hS hN)
    by_cases h9 : z.toInt = 9
    · exact lv_tableIn (off := 396) (tgt := 429) hx hb dL_law_33 (by rw [h9]; decide) (by rw [h9]; decide) (by rw [h9]; rfl) (by decide) (law_9 C hX hbl hL hlt hcs hl hi hok hP hS hN)
    by_cases h10 : z.toInt = 10
    · exact lv_tableIn (off := 429) (tgt := 462) hx hb dL_law_33 (by rw [h10]; decide) (by rw [h10]; decide) (by rw [h10]; rfl) (by decide) (law_10 C hX hbl hL hlt hcs hl hi hok hP hS hN)
    by_cases h11 : z.toInt = 11
    · exact lv_tableIn (off := 452) (tgt := 485) hx hb dL_law_33 (by rw [h11]; decide) (by rw [h11]; decide) (by rw [h11]; rfl) (by decide) (law_11 C hX hbl hL hlt hcs hl hi hok hP hS hN)
    by_cases h12 : z.toInt = 12
    · exact lv_tableIn (off := 485) (tgt := 518) hx hb dL_law_33 (by rw [h12]; decide) (by rw [h12]; decide) (by rw [h12]; rfl) (by decide) (law_12 C hX hbl hL hlt hcs hl hi hok hP hS hN)
    by_cases h13 : z.toInt = 13
    · exact lv_tableIn (off := 498) (tgt := 531) hx hb dL_law_33 (by rw [h13]; decide) (by rw [h13]; decide) (by rw [h13]; rfl) (by decide) (law_13 C hX hbl hL hlt hcs hl hi hok hP hS hN)
    by_cases h14 : z.toInt = 14
    · exact lv_tableIn (off := 521) (tgt := 554) hx hb dL_law_33 (by rw [h14]; decide) (by rw [h14]; decide) (by rw [h14]; rfl) (by decide) (law_14 C hX hbl hL hlt hcs hl hi hok hP hS hN)
    by_cases h15 : z.toInt = 15
    · exact lv_tableIn (off := 554) (tgt := 587) hx hb dL_law_33 (by rw [h15]; decide) (by rw [h15]; decide) (by rw [h15]; rfl) (by decide) (law_15 C hX hbl hL hlt hcs hl hi hok hP hS hN)
    by_cases h16 : z.toInt = 16
    · exact lv_tableIn (off := 577) (tgt := 610) hx hb dL_law_33 (by rw [h16]; decide) (by rw [h16]; decide) (by rw [h16]; rfl) (by decide) (law_16 C hX hbl hL hlt hcs hl hi hok hP hS hN)
    by_cases h17 : z.toInt = 17
    · exact lv_tableIn (off := 600) (tgt := 633) hx hb dL_law_33 (by rw [h17]; decide) (by rw [h17]; decide) (by rw [h17]; rfl) (by decide) (law_17 C hX hbl hL hlt hcs hl hi hok hP hS hN)
    by_cases h18 : z.toInt = 18
    · exact lv_tableIn (off := 644) (tgt := 677) hx hb dL_law_33 (by rw [h18]; decide) (by rw [h18]; decide) (by rw [h18]; rfl) (by decide) (law_18 C hX hbl hL hlt hcs hl hi hok hP hS hN)
    by_cases h19 : z.toInt = 19
    · exact lv_tableIn (off := 657) (tgt := 690) hx hb dL_law_33 (by rw [h19]; decide) (by rw [h19]; decide) (by rw [h19]; rfl) (by decide) (law_19 C hX hbl hL hlt hcs hl hi hok hP hS hN)
    by_cases h20 : z.toInt = 20
    · exact lv_tableIn (off := 670) (tgt := 703) hx hb dL_law_33 (by rw [h20]; decide) (by rw [h20]; decide) (by rw [h20]; rfl) (by decide) (law_20 C hX hbl hL hlt hcs hl hi hok hP hS hN)
    by_cases h21 : z.toInt = 21
    · exact lv_tableIn (off := 693) (tgt := 726) hx hb dL_law_33 (by rw [h21]; decide) (by rw [h21]; decide) (by rw [h21]; rfl) (by decide) (law_21 C hX hbl hL hlt hcs hl hi hok hP hS hN)
    by_cases h22 : z.toInt = 22
    · exact lv_tableIn (off := 736) (tgt := 769) hx hb dL_law_33 (by rw [h22]; decide) (by rw [h22]; decide) (by rw [h22]; rfl) (by decide) (law_22 C hX hbl hL hlt hcs hl hi hok hP hS hN)
    by_cases h23 : z.toInt = 23
    · exact lv_tableIn (off := 779) (tgt := 812) hx hb dL_law_33 (by rw [h23]; decide) (by rw [h23]; decide) (by rw [h23]; rfl) (by decide) (law_23 C hX hbl hL hlt hcs hl hi hok hP hS hN)
    by_cases h24 : z.toInt = 24
    · exact lv_tableIn (off := 842) (tgt := 875) hx hb dL_law_33 (by rw [h24]; decide) (by rw [h24]; decide) (by rw [h24]; rfl) (by decide) (law_24 C hX hbl hL hlt hcs hl hi hok hP hS hN)
    by_cases h25 : z.toInt = 25
    · exact lv_tableIn (off := 895) (tgt := 928) hx hb dL_law_33 (by rw [h25]; decide) (by rw [h25]; decide) (by rw [h25]; rfl) (by decide) (law_25 C hX hbl hL hlt hcs hl hi hok hP hS hN)
    exact lv_tableOut (tgt := 961) hx hb dL_law_33 (by omega) (by decide) (hN σ H locs hi hok hP hS)
