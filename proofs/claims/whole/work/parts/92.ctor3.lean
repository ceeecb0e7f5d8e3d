/-! CONSTRUCTOR: Yard -/
def wsX7_init : List Cond := .code yX7_init cX7_init 3 none :: ([.methodLink RX7 3 objectInit, .instanceMethod objectInit, .code objectInit ⟨#[0xb1]⟩ 1 none, .arrayClass .int, .fieldLink RX7 9 "OtherSidesPump$Yard" "members" "[I", .fieldLink RX7 15 "OtherSidesPump$Yard" "starts" "[I", .fieldLink RX7 18 "OtherSidesPump$Yard" "ends" "[I", .fieldLink RX7 21 "OtherSidesPump$Yard" "off" "[I", .fieldLink RX7 24 "OtherSidesPump$Yard" "place" "[I", .fieldLink RX7 27 "OtherSidesPump$Yard" "share" "[I", .fieldLink RX7 30 "OtherSidesPump$Yard" "queue" "[I", .fieldLink RX7 33 "OtherSidesPump$Yard" "fleet" "LOtherSidesPump$Fleet;", .fieldLink RX7 37 "OtherSidesPump$Yard" "rules" "LOtherSidesPump$Rules;"] ++ u_ws RX7 TX7 15)
theorem dX7_init_0 : decode cX7_init 0 = .ok (.aload_n 0, 1) := by decide +kernel
theorem dX7_init_1 : decode cX7_init 1 = .ok (.invokespecial 3, 3) := by decide +kernel
theorem dX7_init_4 : decode cX7_init 4 = .ok (.aload_n 0, 1) := by decide +kernel
theorem dX7_init_5 : decode cX7_init 5 = .ok (.iconst 4, 1) := by decide +kernel
theorem dX7_init_6 : decode cX7_init 6 = .ok (.newarray .int, 2) := by decide +kernel
theorem dX7_init_8 : decode cX7_init 8 = .ok (.putfield 9, 3) := by decide +kernel
theorem dX7_init_11 : decode cX7_init 11 = .ok (.aload_n 0, 1) := by decide +kernel
theorem dX7_init_12 : decode cX7_init 12 = .ok (.bipush 6, 2) := by decide +kernel
theorem dX7_init_14 : decode cX7_init 14 = .ok (.newarray .int, 2) := by decide +kernel
theorem dX7_init_16 : decode cX7_init 16 = .ok (.putfield 15, 3) := by decide +kernel
theorem dX7_init_19 : decode cX7_init 19 = .ok (.aload_n 0, 1) := by decide +kernel
theorem dX7_init_20 : decode cX7_init 20 = .ok (.bipush 6, 2) := by decide +kernel
theorem dX7_init_22 : decode cX7_init 22 = .ok (.newarray .int, 2) := by decide +kernel
theorem dX7_init_24 : decode cX7_init 24 = .ok (.putfield 18, 3) := by decide +kernel
theorem dX7_init_27 : decode cX7_init 27 = .ok (.aload_n 0, 1) := by decide +kernel
theorem dX7_init_28 : decode cX7_init 28 = .ok (.bipush 6, 2) := by decide +kernel
theorem dX7_init_30 : decode cX7_init 30 = .ok (.newarray .int, 2) := by decide +kernel
theorem dX7_init_32 : decode cX7_init 32 = .ok (.putfield 21, 3) := by decide +kernel
theorem dX7_init_35 : decode cX7_init 35 = .ok (.aload_n 0, 1) := by decide +kernel
theorem dX7_init_36 : decode cX7_init 36 = .ok (.bipush 6, 2) := by decide +kernel
theorem dX7_init_38 : decode cX7_init 38 = .ok (.newarray .int, 2) := by decide +kernel
theorem dX7_init_40 : decode cX7_init 40 = .ok (.putfield 24, 3) := by decide +kernel
theorem dX7_init_43 : decode cX7_init 43 = .ok (.aload_n 0, 1) := by decide +kernel
theorem dX7_init_44 : decode cX7_init 44 = .ok (.bipush 6, 2) := by decide +kernel
theorem dX7_init_46 : decode cX7_init 46 = .ok (.newarray .int, 2) := by decide +kernel
theorem dX7_init_48 : decode cX7_init 48 = .ok (.putfield 27, 3) := by decide +kernel
theorem dX7_init_51 : decode cX7_init 51 = .ok (.aload_n 0, 1) := by decide +kernel
theorem dX7_init_52 : decode cX7_init 52 = .ok (.bipush 6, 2) := by decide +kernel
theorem dX7_init_54 : decode cX7_init 54 = .ok (.newarray .int, 2) := by decide +kernel
theorem dX7_init_56 : decode cX7_init 56 = .ok (.putfield 30, 3) := by decide +kernel
theorem dX7_init_59 : decode cX7_init 59 = .ok (.aload_n 0, 1) := by decide +kernel
theorem dX7_init_60 : decode cX7_init 60 = .ok (.aload_n 1, 1) := by decide +kernel
theorem dX7_init_61 : decode cX7_init 61 = .ok (.putfield 33, 3) := by decide +kernel
theorem dX7_init_64 : decode cX7_init 64 = .ok (.aload_n 0, 1) := by decide +kernel
theorem dX7_init_65 : decode cX7_init 65 = .ok (.aload_n 2, 1) := by decide +kernel
theorem dX7_init_66 : decode cX7_init 66 = .ok (.putfield 37, 3) := by decide +kernel
theorem dX7_init_69 : decode cX7_init 69 = .ok (.return_, 1) := by decide +kernel
set_option maxHeartbeats 4000000 in
set_option maxRecDepth 100000 in
theorem c_Yard (l : Launch) (dC : Nat → ClassId) (dI : Nat → Nat → Nat) (h0 h1 h2 sz : Nat) : Met l yX7_init wsX7_init ({ frames := 2, cells := 7, slots := 40, locals := 64 }) (va_Pc [.ref h0, .ref h1, .ref h2] (fun U => U.heap.size = sz ∧ va_P (dC, dI) scl [(h0, .inr (7, [.null, .null, .null, .null, .null, .null, .null, .null, .null, .int 0, .int 0, .int 0, .int 0, .int 0, .int 0]))] U.heap ∧ va_K (dC, dI) scl [] U ∧ va_D (fun _ => True) [(h0, .inr (7, [.null, .null, .null, .null, .null, .null, .null, .null, .null, .int 0, .int 0, .int 0, .int 0, .int 0, .int 0]))])) (va_Qv (fun _ : (Nat → Nat) × (Nat → ClassId) => True) (fun u t => va_P (dC, dI) scl [(h0, .inr (7, [.ref h1, .ref h2, .ref (u.1 1), .ref (u.1 2), .ref (u.1 3), .ref (u.1 4), .ref (u.1 5), .ref (u.1 6), .ref (u.1 7), .int 0, .int 0, .int 0, .int 0, .int 0, .int 0])), ((u.1 1), .inl ((u.2 1), zI 4)), ((u.1 2), .inl ((u.2 2), zI 6)), ((u.1 3), .inl ((u.2 3), zI 6)), ((u.1 4), .inl ((u.2 4), zI 6)), ((u.1 5), .inl ((u.2 5), zI 6)), ((u.1 6), .inl ((u.2 6), zI 6)), ((u.1 7), .inl ((u.2 7), zI 6))] t.heap ∧ va_K (dC, dI) scl [((u.2 1), .int), ((u.2 2), .int), ((u.2 3), .int), ((u.2 4), .int), ((u.2 5), .int), ((u.2 6), .int), ((u.2 7), .int)] t ∧ va_D (va_A [(h0, .inr (7, [.null, .null, .null, .null, .null, .null, .null, .null, .null, .int 0, .int 0, .int 0, .int 0, .int 0, .int 0]))] sz) [(h0, .inr (7, [.ref h1, .ref h2, .ref (u.1 1), .ref (u.1 2), .ref (u.1 3), .ref (u.1 4), .ref (u.1 5), .ref (u.1 6), .ref (u.1 7), .int 0, .int 0, .int 0, .int 0, .int 0, .int 0])), ((u.1 1), .inl ((u.2 1), zI 4)), ((u.1 2), .inl ((u.2 2), zI 6)), ((u.1 3), .inl ((u.2 3), zI 6)), ((u.1 4), .inl ((u.2 4), zI 6)), ((u.1 5), .inl ((u.2 5), zI 6)), ((u.1 6), .inl ((u.2 6), zI 6)), ((u.1 7), .inl ((u.2 7), zI 6))]) (va_A [(h0, .inr (7, [.null, .null, .null, .null, .null, .null, .null, .null, .null, .int 0, .int 0, .int 0, .int 0, .int 0, .int 0]))] sz)) 7 40 (va_A [(h0, .inr (7, [.null, .null, .null, .null, .null, .null, .null, .null, .null, .int 0, .int 0, .int 0, .int 0, .int 0, .int 0]))] sz) := by
  refine Met.ofW (cc := cX7_init) (maxL := 3) (ret := none) (by decide) rfl ?_
  intro p e s m args below meth c s₁ B hml hv
  obtain ⟨rfl, hsz, hP, hK, hD0⟩ := hv
  have hx := B.exec
  have hb := B.bytes
  have hr := B.returns
  have hts := atoms_spec (ws := wsX7_init) B.pre
  have hown : s.vm.findClass RX7 = some m.cls := findClass_of_methodNamed B.named
  have hin : meth.name = "<init>" := (name_of_methodNamed B.named B.method).1
  subst hsz
  have hD := hD0.self (sz := s.heap.size)
  generalize hAe : va_A [(h0, .inr (7, [.null, .null, .null, .null, .null, .null, .null, .null, .null, .int 0, .int 0, .int 0, .int 0, .int 0, .int 0]))] s.heap.size = A at hD ⊢
  have hA : ∀ q : Nat, s.heap.size ≤ q → A q := fun q h => by rw [← hAe]; exact Or.inr h
  have hS : va_S A s.heap s.heap [] := va_S.rf
  have hl := lv_entry ([.ref h0, .ref h1, .ref h2]) (n := 3) (Nat.le_of_ble_eq_true rfl)
  rw [lg_entry_eq]
  generalize (lg_sl ([.ref h0, .ref h1, .ref h2]) ++ List.replicate (3 - (lg_sl ([.ref h0, .ref h1, .ref h2])).length) Slot.unset).toArray = ls at hl ⊢
  have hl : lv_has ls 3 [(0, .ref h0), (1, .ref h1), (2, .ref h2)] := hl
  refine lv_aload_n hx hb dX7_init_0 rfl (lv_at hl 0 rfl) ?_
  refine W.objInit hx hb hown (hts (.methodLink RX7 3 objectInit) (List.mem_of_getElem? (i := 1) rfl)) (hts (.instanceMethod objectInit) (List.mem_of_getElem? (i := 2) rfl)) (hts _ (List.mem_of_getElem? (i := 3) rfl)) rfl (by rw [hml]; exact hl.1) rfl dX7_init_1 (Nat.le_of_ble_eq_true rfl) (Nat.le_of_ble_eq_true rfl) ?_
  refine W.eq (g2 := F0 m 4 ls []) rfl ?_
  refine lv_aload_n hx hb dX7_init_4 rfl (lv_at hl 0 rfl) ?_
  refine lv_iconst hx hb dX7_init_5 rfl ?_
  refine va_newa (atype := .int) (N' := 4) (a0 := zI 4) hx hb (hts (.arrayClass .int) (List.mem_of_getElem? (i := 4) rfl)) rfl hK hP hD hS hA (fun _ => rfl) (by decide) (by decide +kernel) (Nat.le_of_ble_eq_true rfl) (Nat.le_of_ble_eq_true rfl) (Nat.le_of_ble_eq_true rfl) dX7_init_6 (fun q1 c1 H hK hP hD hS => ?_)
  have hP : va_P (dC, dI) scl [(h0, .inr (7, [.null, .null, .null, .null, .null, .null, .null, .null, .null, .int 0, .int 0, .int 0, .int 0, .int 0, .int 0])), (q1, .inl (c1, zI 4))] H := hP
  have hD : va_D A [(h0, .inr (7, [.null, .null, .null, .null, .null, .null, .null, .null, .null, .int 0, .int 0, .int 0, .int 0, .int 0, .int 0])), (q1, .inl (c1, zI 4))] := hD
  have hK : va_K (dC, dI) scl [(c1, .int)] s := hK
  refine va_putF (D := (dC, dI)) (ci := 7) (v := .ref q1) (ty := .array .int) (C := RX7) (T := TX7) (N := 15) hx hb hts (by decide +kernel) tyX7 tyX7_ok nmX7 hown hK hP hD hS 0 rfl rfl 2 (by decide) (hts (.fieldLink RX7 9 "OtherSidesPump$Yard" "members" "[I") (List.mem_of_getElem? (i := 5) rfl)) (fun _ h9 => h9) rfl hin rfl (by decide +kernel) rfl rfl (Nat.le_of_ble_eq_true rfl) dX7_init_8 (fun H locs hP hD hS => ?_)
  have hP : va_P (dC, dI) scl [(h0, .inr (7, [.null, .null, .ref q1, .null, .null, .null, .null, .null, .null, .int 0, .int 0, .int 0, .int 0, .int 0, .int 0])), (q1, .inl (c1, zI 4))] H := hP
  have hD : va_D A [(h0, .inr (7, [.null, .null, .ref q1, .null, .null, .null, .null, .null, .null, .int 0, .int 0, .int 0, .int 0, .int 0, .int 0])), (q1, .inl (c1, zI 4))] := hD
  refine lv_aload_n hx hb dX7_init_11 rfl (lv_at hl 0 rfl) ?_
  refine lv_bipush hx hb dX7_init_12 rfl ?_
  refine va_newa (atype := .int) (N' := 6) (a0 := zI 6) hx hb (hts (.arrayClass .int) (List.mem_of_getElem? (i := 4) rfl)) rfl hK hP hD hS hA (fun _ => rfl) (by decide) (by decide +kernel) (Nat.le_of_ble_eq_true rfl) (Nat.le_of_ble_eq_true rfl) (Nat.le_of_ble_eq_true rfl) dX7_init_14 (fun q2 c2 H hK hP hD hS => ?_)
  have hP : va_P (dC, dI) scl [(h0, .inr (7, [.null, .null, .ref q1, .null, .null, .null, .null, .null, .null, .int 0, .int 0, .int 0, .int 0, .int 0, .int 0])), (q1, .inl (c1, zI 4)), (q2, .inl (c2, zI 6))] H := hP
  have hD : va_D A [(h0, .inr (7, [.null, .null, .ref q1, .null, .null, .null, .null, .null, .null, .int 0, .int 0, .int 0, .int 0, .int 0, .int 0])), (q1, .inl (c1, zI 4)), (q2, .inl (c2, zI 6))] := hD
  have hK : va_K (dC, dI) scl [(c1, .int), (c2, .int)] s := hK
  refine va_putF (D := (dC, dI)) (ci := 7) (v := .ref q2) (ty := .array .int) (C := RX7) (T := TX7) (N := 15) hx hb hts (by decide +kernel) tyX7 tyX7_ok nmX7 hown hK hP hD hS 0 rfl rfl 3 (by decide) (hts (.fieldLink RX7 15 "OtherSidesPump$Yard" "starts" "[I") (List.mem_of_getElem? (i := 6) rfl)) (fun _ h9 => h9) rfl hin rfl (by decide +kernel) rfl rfl (Nat.le_of_ble_eq_true rfl) dX7_init_16 (fun H locs hP hD hS => ?_)
  have hP : va_P (dC, dI) scl [(h0, .inr (7, [.null, .null, .ref q1, .ref q2, .null, .null, .null, .null, .null, .int 0, .int 0, .int 0, .int 0, .int 0, .int 0])), (q1, .inl (c1, zI 4)), (q2, .inl (c2, zI 6))] H := hP
  have hD : va_D A [(h0, .inr (7, [.null, .null, .ref q1, .ref q2, .null, .null, .null, .null, .null, .int 0, .int 0, .int 0, .int 0, .int 0, .int 0])), (q1, .inl (c1, zI 4)), (q2, .inl (c2, zI 6))] := hD
  refine lv_aload_n hx hb dX7_init_19 rfl (lv_at hl 0 rfl) ?_
  refine lv_bipush hx hb dX7_init_20 rfl ?_
  refine va_newa (atype := .int) (N' := 6) (a0 := zI 6) hx hb (hts (.arrayClass .int) (List.mem_of_getElem? (i := 4) rfl)) rfl hK hP hD hS hA (fun _ => rfl) (by decide) (by decide +kernel) (Nat.le_of_ble_eq_true rfl) (Nat.le_of_ble_eq_true rfl) (Nat.le_of_ble_eq_true rfl) dX7_init_22 (fun q3 c3 H hK hP hD hS => ?_)
  have hP : va_P (dC, dI) scl [(h0, .inr (7, [.null, .null, .ref q1, .ref q2, .null, .null, .null, .null, .null, .int 0, .int 0, .int 0, .int 0, .int 0, .int 0])), (q1, .inl (c1, zI 4)), (q2, .inl (c2, zI 6)), (q3, .inl (c3, zI 6))] H := hP
  have hD : va_D A [(h0, .inr (7, [.null, .null, .ref q1, .ref q2, .null, .null, .null, .null, .null, .int 0, .int 0, .int 0, .int 0, .int 0, .int 0])), (q1, .inl (c1, zI 4)), (q2, .inl (c2, zI 6)), (q3, .inl (c3, zI 6))] := hD
  have hK : va_K (dC, dI) scl [(c1, .int), (c2, .int), (c3, .int)] s := hK
  refine va_putF (D := (dC, dI)) (ci := 7) (v := .ref q3) (ty := .array .int) (C := RX7) (T := TX7) (N := 15) hx hb hts (by decide +kernel) tyX7 tyX7_ok nmX7 hown hK hP hD hS 0 rfl rfl 4 (by decide) (hts (.fieldLink RX7 18 "OtherSidesPump$Yard" "ends" "[I") (List.mem_of_getElem? (i := 7) rfl)) (fun _ h9 => h9) rfl hin rfl (by decide +kernel) rfl rfl (Nat.le_of_ble_eq_true rfl) dX7_init_24 (fun H locs hP hD hS => ?_)
  have hP : va_P (dC, dI) scl [(h0, .inr (7, [.null, .null, .ref q1, .ref q2, .ref q3, .null, .null, .null, .null, .int 0, .int 0, .int 0, .int 0, .int 0, .int 0])), (q1, .inl (c1, zI 4)), (q2, .inl (c2, zI 6)), (q3, .inl (c3, zI 6))] H := hP
  have hD : va_D A [(h0, .inr (7, [.null, .null, .ref q1, .ref q2, .ref q3, .null, .null, .null, .null, .int 0, .int 0, .int 0, .int 0, .int 0, .int 0])), (q1, .inl (c1, zI 4)), (q2, .inl (c2, zI 6)), (q3, .inl (c3, zI 6))] := hD
  refine lv_aload_n hx hb dX7_init_27 rfl (lv_at hl 0 rfl) ?_
  refine lv_bipush hx hb dX7_init_28 rfl ?_
  refine va_newa (atype := .int) (N' := 6) (a0 := zI 6) hx hb (hts (.arrayClass .int) (List.mem_of_getElem? (i := 4) rfl)) rfl hK hP hD hS hA (fun _ => rfl) (by decide) (by decide +kernel) (Nat.le_of_ble_eq_true rfl) (Nat.le_of_ble_eq_true rfl) (Nat.le_of_ble_eq_true rfl) dX7_init_30 (fun q4 c4 H hK hP hD hS => ?_)
  have hP : va_P (dC, dI) scl [(h0, .inr (7, [.null, .null, .ref q1, .ref q2, .ref q3, .null, .null, .null, .null, .int 0, .int 0, .int 0, .int 0, .int 0, .int 0])), (q1, .inl (c1, zI 4)), (q2, .inl (c2, zI 6)), (q3, .inl (c3, zI 6)), (q4, .inl (c4, zI 6))] H := hP
  have hD : va_D A [(h0, .inr (7, [.null, .null, .ref q1, .ref q2, .ref q3, .null, .null, .null, .null, .int 0, .int 0, .int 0, .int 0, .int 0, .int 0])), (q1, .inl (c1, zI 4)), (q2, .inl (c2, zI 6)), (q3, .inl (c3, zI 6)), (q4, .inl (c4, zI 6))] := hD
  have hK : va_K (dC, dI) scl [(c1, .int), (c2, .int), (c3, .int), (c4, .int)] s := hK
  refine va_putF (D := (dC, dI)) (ci := 7) (v := .ref q4) (ty := .array .int) (C := RX7) (T := TX7) (N := 15) hx hb hts (by decide +kernel) tyX7 tyX7_ok nmX7 hown hK hP hD hS 0 rfl rfl 5 (by decide) (hts (.fieldLink RX7 21 "OtherSidesPump$Yard" "off" "[I") (List.mem_of_getElem? (i := 8) rfl)) (fun _ h9 => h9) rfl hin rfl (by decide +kernel) rfl rfl (Nat.le_of_ble_eq_true rfl) dX7_init_32 (fun H locs hP hD hS => ?_)
  have hP : va_P (dC, dI) scl [(h0, .inr (7, [.null, .null, .ref q1, .ref q2, .ref q3, .ref q4, .null, .null, .null, .int 0, .int 0, .int 0, .int 0, .int 0, .int 0])), (q1, .inl (c1, zI 4)), (q2, .inl (c2, zI 6)), (q3, .inl (c3, zI 6)), (q4, .inl (c4, zI 6))] H := hP
  have hD : va_D A [(h0, .inr (7, [.null, .null, .ref q1, .ref q2, .ref q3, .ref q4, .null, .null, .null, .int 0, .int 0, .int 0, .int 0, .int 0, .int 0])), (q1, .inl (c1, zI 4)), (q2, .inl (c2, zI 6)), (q3, .inl (c3, zI 6)), (q4, .inl (c4, zI 6))] := hD
  refine lv_aload_n hx hb dX7_init_35 rfl (lv_at hl 0 rfl) ?_
  refine lv_bipush hx hb dX7_init_36 rfl ?_
  refine va_newa (atype := .int) (N' := 6) (a0 := zI 6) hx hb (hts (.arrayClass .int) (List.mem_of_getElem? (i := 4) rfl)) rfl hK hP hD hS hA (fun _ => rfl) (by decide) (by decide +kernel) (Nat.le_of_ble_eq_true rfl) (Nat.le_of_ble_eq_true rfl) (Nat.le_of_ble_eq_true rfl) dX7_init_38 (fun q5 c5 H hK hP hD hS => ?_)
  have hP : va_P (dC, dI) scl [(h0, .inr (7, [.null, .null, .ref q1, .ref q2, .ref q3, .ref q4, .null, .null, .null, .int 0, .int 0, .int 0, .int 0, .int 0, .int 0])), (q1, .inl (c1, zI 4)), (q2, .inl (c2, zI 6)), (q3, .inl (c3, zI 6)), (q4, .inl (c4, zI 6)), (q5, .inl (c5, zI 6))] H := hP
  have hD : va_D A [(h0, .inr (7, [.null, .null, .ref q1, .ref q2, .ref q3, .ref q4, .null, .null, .null, .int 0, .int 0, .int 0, .int 0, .int 0, .int 0])), (q1, .inl (c1, zI 4)), (q2, .inl (c2, zI 6)), (q3, .inl (c3, zI 6)), (q4, .inl (c4, zI 6)), (q5, .inl (c5, zI 6))] := hD
  have hK : va_K (dC, dI) scl [(c1, .int), (c2, .int), (c3, .int), (c4, .int), (c5, .int)] s := hK
  refine va_putF (D := (dC, dI)) (ci := 7) (v := .ref q5) (ty := .array .int) (C := RX7) (T := TX7) (N := 15) hx hb hts (by decide +kernel) tyX7 tyX7_ok nmX7 hown hK hP hD hS 0 rfl rfl 6 (by decide) (hts (.fieldLink RX7 24 "OtherSidesPump$Yard" "place" "[I") (List.mem_of_getElem? (i := 9) rfl)) (fun _ h9 => h9) rfl hin rfl (by decide +kernel) rfl rfl (Nat.le_of_ble_eq_true rfl) dX7_init_40 (fun H locs hP hD hS => ?_)
  have hP : va_P (dC, dI) scl [(h0, .inr (7, [.null, .null, .ref q1, .ref q2, .ref q3, .ref q4, .ref q5, .null, .null, .int 0, .int 0, .int 0, .int 0, .int 0, .int 0])), (q1, .inl (c1, zI 4)), (q2, .inl (c2, zI 6)), (q3, .inl (c3, zI 6)), (q4, .inl (c4, zI 6)), (q5, .inl (c5, zI 6))] H := hP
  have hD : va_D A [(h0, .inr (7, [.null, .null, .ref q1, .ref q2, .ref q3, .ref q4, .ref q5, .null, .null, .int 0, .int 0, .int 0, .int 0, .int 0, .int 0])), (q1, .inl (c1, zI 4)), (q2, .inl (c2, zI 6)), (q3, .inl (c3, zI 6)), (q4, .inl (c4, zI 6)), (q5, .inl (c5, zI 6))] := hD
  refine lv_aload_n hx hb dX7_init_43 rfl (lv_at hl 0 rfl) ?_
  refine lv_bipush hx hb dX7_init_44 rfl ?_
  refine va_newa (atype := .int) (N' := 6) (a0 := zI 6) hx hb (hts (.arrayClass .int) (List.mem_of_getElem? (i := 4) rfl)) rfl hK hP hD hS hA (fun _ => rfl) (by decide) (by decide +kernel) (Nat.le_of_ble_eq_true rfl) (Nat.le_of_ble_eq_true rfl) (Nat.le_of_ble_eq_true rfl) dX7_init_46 (fun q6 c6 H hK hP hD hS => ?_)
  have hP : va_P (dC, dI) scl [(h0, .inr (7, [.null, .null, .ref q1, .ref q2, .ref q3, .ref q4, .ref q5, .null, .null, .int 0, .int 0, .int 0, .int 0, .int 0, .int 0])), (q1, .inl (c1, zI 4)), (q2, .inl (c2, zI 6)), (q3, .inl (c3, zI 6)), (q4, .inl (c4, zI 6)), (q5, .inl (c5, zI 6)), (q6, .inl (c6, zI 6))] H := hP
  have hD : va_D A [(h0, .inr (7, [.null, .null, .ref q1, .ref q2, .ref q3, .ref q4, .ref q5, .null, .null, .int 0, .int 0, .int 0, .int 0, .int 0, .int 0])), (q1, .inl (c1, zI 4)), (q2, .inl (c2, zI 6)), (q3, .inl (c3, zI 6)), (q4, .inl (c4, zI 6)), (q5, .inl (c5, zI 6)), (q6, .inl (c6, zI 6))] := hD
  have hK : va_K (dC, dI) scl [(c1, .int), (c2, .int), (c3, .int), (c4, .int), (c5, .int), (c6, .int)] s := hK
  refine va_putF (D := (dC, dI)) (ci := 7) (v := .ref q6) (ty := .array .int) (C := RX7) (T := TX7) (N := 15) hx hb hts (by decide +kernel) tyX7 tyX7_ok nmX7 hown hK hP hD hS 0 rfl rfl 7 (by decide) (hts (.fieldLink RX7 27 "OtherSidesPump$Yard" "share" "[I") (List.mem_of_getElem? (i := 10) rfl)) (fun _ h9 => h9) rfl hin rfl (by decide +kernel) rfl rfl (Nat.le_of_ble_eq_true rfl) dX7_init_48 (fun H locs hP hD hS => ?_)
  have hP : va_P (dC, dI) scl [(h0, .inr (7, [.null, .null, .ref q1, .ref q2, .ref q3, .ref q4, .ref q5, .ref q6, .null, .int 0, .int 0, .int 0, .int 0, .int 0, .int 0])), (q1, .inl (c1, zI 4)), (q2, .inl (c2, zI 6)), (q3, .inl (c3, zI 6)), (q4, .inl (c4, zI 6)), (q5, .inl (c5, zI 6)), (q6, .inl (c6, zI 6))] H := hP
  have hD : va_D A [(h0, .inr (7, [.null, .null, .ref q1, .ref q2, .ref q3, .ref q4, .ref q5, .ref q6, .null, .int 0, .int 0, .int 0, .int 0, .int 0, .int 0])), (q1, .inl (c1, zI 4)), (q2, .inl (c2, zI 6)), (q3, .inl (c3, zI 6)), (q4, .inl (c4, zI 6)), (q5, .inl (c5, zI 6)), (q6, .inl (c6, zI 6))] := hD
  refine lv_aload_n hx hb dX7_init_51 rfl (lv_at hl 0 rfl) ?_
  refine lv_bipush hx hb dX7_init_52 rfl ?_
  refine va_newa (atype := .int) (N' := 6) (a0 := zI 6) hx hb (hts (.arrayClass .int) (List.mem_of_getElem? (i := 4) rfl)) rfl hK hP hD hS hA (fun _ => rfl) (by decide) (by decide +kernel) (Nat.le_of_ble_eq_true rfl) (Nat.le_of_ble_eq_true rfl) (Nat.le_of_ble_eq_true rfl) dX7_init_54 (fun q7 c7 H hK hP hD hS => ?_)
  have hP : va_P (dC, dI) scl [(h0, .inr (7, [.null, .null, .ref q1, .ref q2, .ref q3, .ref q4, .ref q5, .ref q6, .null, .int 0, .int 0, .int 0, .int 0, .int 0, .int 0])), (q1, .inl (c1, zI 4)), (q2, .inl (c2, zI 6)), (q3, .inl (c3, zI 6)), (q4, .inl (c4, zI 6)), (q5, .inl (c5, zI 6)), (q6, .inl (c6, zI 6)), (q7, .inl (c7, zI 6))] H := hP
  have hD : va_D A [(h0, .inr (7, [.null, .null, .ref q1, .ref q2, .ref q3, .ref q4, .ref q5, .ref q6, .null, .int 0, .int 0, .int 0, .int 0, .int 0, .int 0])), (q1, .inl (c1, zI 4)), (q2, .inl (c2, zI 6)), (q3, .inl (c3, zI 6)), (q4, .inl (c4, zI 6)), (q5, .inl (c5, zI 6)), (q6, .inl (c6, zI 6)), (q7, .inl (c7, zI 6))] := hD
  have hK : va_K (dC, dI) scl [(c1, .int), (c2, .int), (c3, .int), (c4, .int), (c5, .int), (c6, .int), (c7, .int)] s := hK
  refine va_putF (D := (dC, dI)) (ci := 7) (v := .ref q7) (ty := .array .int) (C := RX7) (T := TX7) (N := 15) hx hb hts (by decide +kernel) tyX7 tyX7_ok nmX7 hown hK hP hD hS 0 rfl rfl 8 (by decide) (hts (.fieldLink RX7 30 "OtherSidesPump$Yard" "queue" "[I") (List.mem_of_getElem? (i := 11) rfl)) (fun _ h9 => h9) rfl hin rfl (by decide +kernel) rfl rfl (Nat.le_of_ble_eq_true rfl) dX7_init_56 (fun H locs hP hD hS => ?_)
  have hP : va_P (dC, dI) scl [(h0, .inr (7, [.null, .null, .ref q1, .ref q2, .ref q3, .ref q4, .ref q5, .ref q6, .ref q7, .int 0, .int 0, .int 0, .int 0, .int 0, .int 0])), (q1, .inl (c1, zI 4)), (q2, .inl (c2, zI 6)), (q3, .inl (c3, zI 6)), (q4, .inl (c4, zI 6)), (q5, .inl (c5, zI 6)), (q6, .inl (c6, zI 6)), (q7, .inl (c7, zI 6))] H := hP
  have hD : va_D A [(h0, .inr (7, [.null, .null, .ref q1, .ref q2, .ref q3, .ref q4, .ref q5, .ref q6, .ref q7, .int 0, .int 0, .int 0, .int 0, .int 0, .int 0])), (q1, .inl (c1, zI 4)), (q2, .inl (c2, zI 6)), (q3, .inl (c3, zI 6)), (q4, .inl (c4, zI 6)), (q5, .inl (c5, zI 6)), (q6, .inl (c6, zI 6)), (q7, .inl (c7, zI 6))] := hD
  refine lv_aload_n hx hb dX7_init_59 rfl (lv_at hl 0 rfl) ?_
  refine lv_aload_n hx hb dX7_init_60 rfl (lv_at hl 1 rfl) ?_
  refine va_putF (D := (dC, dI)) (ci := 7) (v := .ref h1) (ty := .object "OtherSidesPump$Fleet") (C := RX7) (T := TX7) (N := 15) hx hb hts (by decide +kernel) tyX7 tyX7_ok nmX7 hown hK hP hD hS 0 rfl rfl 0 (by decide) (hts (.fieldLink RX7 33 "OtherSidesPump$Yard" "fleet" "LOtherSidesPump$Fleet;") (List.mem_of_getElem? (i := 12) rfl)) (fun _ h9 => h9) rfl hin rfl (by decide +kernel) rfl rfl (Nat.le_of_ble_eq_true rfl) dX7_init_61 (fun H locs hP hD hS => ?_)
  have hP : va_P (dC, dI) scl [(h0, .inr (7, [.ref h1, .null, .ref q1, .ref q2, .ref q3, .ref q4, .ref q5, .ref q6, .ref q7, .int 0, .int 0, .int 0, .int 0, .int 0, .int 0])), (q1, .inl (c1, zI 4)), (q2, .inl (c2, zI 6)), (q3, .inl (c3, zI 6)), (q4, .inl (c4, zI 6)), (q5, .inl (c5, zI 6)), (q6, .inl (c6, zI 6)), (q7, .inl (c7, zI 6))] H := hP
  have hD : va_D A [(h0, .inr (7, [.ref h1, .null, .ref q1, .ref q2, .ref q3, .ref q4, .ref q5, .ref q6, .ref q7, .int 0, .int 0, .int 0, .int 0, .int 0, .int 0])), (q1, .inl (c1, zI 4)), (q2, .inl (c2, zI 6)), (q3, .inl (c3, zI 6)), (q4, .inl (c4, zI 6)), (q5, .inl (c5, zI 6)), (q6, .inl (c6, zI 6)), (q7, .inl (c7, zI 6))] := hD
  refine lv_aload_n hx hb dX7_init_64 rfl (lv_at hl 0 rfl) ?_
  refine lv_aload_n hx hb dX7_init_65 rfl (lv_at hl 2 rfl) ?_
  refine va_putF (D := (dC, dI)) (ci := 7) (v := .ref h2) (ty := .object "OtherSidesPump$Rules") (C := RX7) (T := TX7) (N := 15) hx hb hts (by decide +kernel) tyX7 tyX7_ok nmX7 hown hK hP hD hS 0 rfl rfl 1 (by decide) (hts (.fieldLink RX7 37 "OtherSidesPump$Yard" "rules" "LOtherSidesPump$Rules;") (List.mem_of_getElem? (i := 13) rfl)) (fun _ h9 => h9) rfl hin rfl (by decide +kernel) rfl rfl (Nat.le_of_ble_eq_true rfl) dX7_init_66 (fun H locs hP hD hS => ?_)
  have hP : va_P (dC, dI) scl [(h0, .inr (7, [.ref h1, .ref h2, .ref q1, .ref q2, .ref q3, .ref q4, .ref q5, .ref q6, .ref q7, .int 0, .int 0, .int 0, .int 0, .int 0, .int 0])), (q1, .inl (c1, zI 4)), (q2, .inl (c2, zI 6)), (q3, .inl (c3, zI 6)), (q4, .inl (c4, zI 6)), (q5, .inl (c5, zI 6)), (q6, .inl (c6, zI 6)), (q7, .inl (c7, zI 6))] H := hP
  have hD : va_D A [(h0, .inr (7, [.ref h1, .ref h2, .ref q1, .ref q2, .ref q3, .ref q4, .ref q5, .ref q6, .ref q7, .int 0, .int 0, .int 0, .int 0, .int 0, .int 0])), (q1, .inl (c1, zI 4)), (q2, .inl (c2, zI 6)), (q3, .inl (c3, zI 6)), (q4, .inl (c4, zI 6)), (q5, .inl (c5, zI 6)), (q6, .inl (c6, zI 6)), (q7, .inl (c7, zI 6))] := hD
  exact W.vret hx hb hr (fun t ht hW => ⟨⟨(fun i => if i = 1 then q1 else if i = 2 then q2 else if i = 3 then q3 else if i = 4 then q4 else if i = 5 then q5 else if i = 6 then q6 else q7, fun i => if i = 1 then c1 else if i = 2 then c2 else if i = 3 then c3 else if i = 4 then c4 else if i = 5 then c5 else if i = 6 then c6 else c7), rfl, trivial, by rw [ht]; exact hP, va_K.moved hW.alike hK, hD⟩, hS.F ht⟩) hS.2.2 dX7_init_69
