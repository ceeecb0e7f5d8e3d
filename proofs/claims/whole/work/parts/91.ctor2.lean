/-! CONSTRUCTORS 2: Reader -/
def wsX4_init : List Cond := .code yX4_init cX4_init 2 none :: ([.methodLink RX4 3 objectInit, .instanceMethod objectInit, .code objectInit ⟨#[0xb1]⟩ 1 none, .arrayClass .int, .fieldLink RX4 9 "OtherSidesPump$Reader" "bytes" "[I", .fieldLink RX4 15 "OtherSidesPump$Reader" "out" "LOtherSidesPump$Rules;"] ++ u_ws RX4 TX4 7)
theorem dX4_init_0 : decode cX4_init 0 = .ok (.aload_n 0, 1) := by decide +kernel
theorem dX4_init_1 : decode cX4_init 1 = .ok (.invokespecial 3, 3) := by decide +kernel
theorem dX4_init_4 : decode cX4_init 4 = .ok (.aload_n 0, 1) := by decide +kernel
theorem dX4_init_5 : decode cX4_init 5 = .ok (.sipush 160, 3) := by decide +kernel
theorem dX4_init_8 : decode cX4_init 8 = .ok (.newarray .int, 2) := by decide +kernel
theorem dX4_init_10 : decode cX4_init 10 = .ok (.putfield 9, 3) := by decide +kernel
theorem dX4_init_13 : decode cX4_init 13 = .ok (.aload_n 0, 1) := by decide +kernel
theorem dX4_init_14 : decode cX4_init 14 = .ok (.aload_n 1, 1) := by decide +kernel
theorem dX4_init_15 : decode cX4_init 15 = .ok (.putfield 15, 3) := by decide +kernel
theorem dX4_init_18 : decode cX4_init 18 = .ok (.return_, 1) := by decide +kernel
set_option maxHeartbeats 4000000 in
set_option maxRecDepth 100000 in
theorem c_Reader (l : Launch) (dC : Nat → ClassId) (dI : Nat → Nat → Nat) (h0 h1 sz : Nat) : Met l yX4_init wsX4_init ({ frames := 2, cells := 1, slots := 160, locals := 64 }) (va_Pc [.ref h0, .ref h1] (fun U => U.heap.size = sz ∧ va_P (dC, dI) scl [(h0, .inr (4, [.null, .null, .int 0, .int 0, .int 0, .int 0, .int 0]))] U.heap ∧ va_K (dC, dI) scl [] U ∧ va_D (fun _ => True) [(h0, .inr (4, [.null, .null, .int 0, .int 0, .int 0, .int 0, .int 0]))])) (va_Qv (fun _ : Nat × ClassId => True) (fun u t => va_P (dC, dI) scl [(h0, .inr (4, [.ref h1, .ref u.1, .int 0, .int 0, .int 0, .int 0, .int 0])), (u.1, .inl (u.2, zI 160))] t.heap ∧ va_K (dC, dI) scl [(u.2, .int)] t ∧ va_D (va_A [(h0, .inr (4, [.null, .null, .int 0, .int 0, .int 0, .int 0, .int 0]))] sz) [(h0, .inr (4, [.ref h1, .ref u.1, .int 0, .int 0, .int 0, .int 0, .int 0])), (u.1, .inl (u.2, zI 160))]) (va_A [(h0, .inr (4, [.null, .null, .int 0, .int 0, .int 0, .int 0, .int 0]))] sz)) 1 160 (va_A [(h0, .inr (4, [.null, .null, .int 0, .int 0, .int 0, .int 0, .int 0]))] sz) := by
  refine Met.ofW (cc := cX4_init) (maxL := 2) (ret := none) (by decide) rfl ?_
  intro p e s m args below meth c s₁ B hml hv
  obtain ⟨rfl, hsz, hP, hK, hD0⟩ := hv
  have hx := B.exec
  have hb := B.bytes
  have hr := B.returns
  have hts := atoms_spec (ws := wsX4_init) B.pre
  have hown : s.vm.findClass RX4 = some m.cls := findClass_of_methodNamed B.named
  have hlocks := B.notSynchronized
  have hin : meth.name = "<init>" := (name_of_methodNamed B.named B.method).1
  subst hsz
  have hD := hD0.self (sz := s.heap.size)
  generalize hAe : va_A [(h0, .inr (4, [.null, .null, .int 0, .int 0, .int 0, .int 0, .int 0]))] s.heap.size = A at hD ⊢
  have hA : ∀ q : Nat, s.heap.size ≤ q → A q := fun q h => by rw [← hAe]; exact Or.inr h
  have hS : va_S A s.heap s.heap [] := va_S.rf
  have hl := lv_entry ([.ref h0, .ref h1]) (n := 2) (Nat.le_of_ble_eq_true rfl)
  rw [lg_entry_eq]
  generalize (lg_sl ([.ref h0, .ref h1]) ++ List.replicate (2 - (lg_sl ([.ref h0, .ref h1])).length) Slot.unset).toArray = ls at hl ⊢
  have hl : lv_has ls 2 [(0, .ref h0), (1, .ref h1)] := hl
  refine lv_aload_n hx hb dX4_init_0 rfl (lv_at hl 0 rfl) ?_
  refine W.objInit hx hb hown (hts (.methodLink RX4 3 objectInit) (List.mem_of_getElem? (i := 1) rfl)) (hts (.instanceMethod objectInit) (List.mem_of_getElem? (i := 2) rfl)) (hts _ (List.mem_of_getElem? (i := 3) rfl)) rfl (by rw [hml]; exact hl.1) rfl dX4_init_1 (Nat.le_of_ble_eq_true rfl) (Nat.le_of_ble_eq_true rfl) ?_
  refine W.eq (g2 := F0 m 4 ls []) rfl ?_
  refine lv_aload_n hx hb dX4_init_4 rfl (lv_at hl 0 rfl) ?_
  refine lv_sipush hx hb dX4_init_5 rfl ?_
  refine va_newa (atype := .int) (N' := 160) (a0 := zI 160) hx hb (hts (.arrayClass .int) (List.mem_of_getElem? (i := 4) rfl)) rfl hK hP hD hS hA (fun _ => rfl) (by decide) (by decide +kernel) (Nat.le_of_ble_eq_true rfl) (Nat.le_of_ble_eq_true rfl) (Nat.le_of_ble_eq_true rfl) dX4_init_8 (fun q1 cA H hK hP hD hS => ?_)
  have hP : va_P (dC, dI) scl [(h0, .inr (4, [.null, .null, .int 0, .int 0, .int 0, .int 0, .int 0])), (q1, .inl (cA, zI 160))] H := hP
  have hD : va_D A [(h0, .inr (4, [.null, .null, .int 0, .int 0, .int 0, .int 0, .int 0])), (q1, .inl (cA, zI 160))] := hD
  have hK : va_K (dC, dI) scl [(cA, .int)] s := hK
  refine va_putF (D := (dC, dI)) (ci := 4) (v := .ref q1) (ty := .array .int) (C := RX4) (T := TX4) (N := 7) hx hb hts (by decide +kernel) tyX4 tyX4_ok nmX4 hown hK hP hD hS 0 rfl rfl 1 (by decide) (hts (.fieldLink RX4 9 "OtherSidesPump$Reader" "bytes" "[I") (List.mem_of_getElem? (i := 5) rfl)) (fun _ h9 => h9) rfl hin rfl (by decide +kernel) rfl rfl (Nat.le_of_ble_eq_true rfl) dX4_init_10 (fun H locs hP hD hS => ?_)
  have hP : va_P (dC, dI) scl [(h0, .inr (4, [.null, .ref q1, .int 0, .int 0, .int 0, .int 0, .int 0])), (q1, .inl (cA, zI 160))] H := hP
  have hD : va_D A [(h0, .inr (4, [.null, .ref q1, .int 0, .int 0, .int 0, .int 0, .int 0])), (q1, .inl (cA, zI 160))] := hD
  refine lv_aload_n hx hb dX4_init_13 rfl (lv_at hl 0 rfl) ?_
  refine lv_aload_n hx hb dX4_init_14 rfl (lv_at hl 1 rfl) ?_
  refine va_putF (D := (dC, dI)) (ci := 4) (v := .ref h1) (ty := .object "OtherSidesPump$Rules") (C := RX4) (T := TX4) (N := 7) hx hb hts (by decide +kernel) tyX4 tyX4_ok nmX4 hown hK hP hD hS 0 rfl rfl 0 (by decide) (hts (.fieldLink RX4 15 "OtherSidesPump$Reader" "out" "LOtherSidesPump$Rules;") (List.mem_of_getElem? (i := 6) rfl)) (fun _ h9 => h9) rfl hin rfl (by decide +kernel) rfl rfl (Nat.le_of_ble_eq_true rfl) dX4_init_15 (fun H locs hP hD hS => ?_)
  have hP : va_P (dC, dI) scl [(h0, .inr (4, [.ref h1, .ref q1, .int 0, .int 0, .int 0, .int 0, .int 0])), (q1, .inl (cA, zI 160))] H := hP
  have hD : va_D A [(h0, .inr (4, [.ref h1, .ref q1, .int 0, .int 0, .int 0, .int 0, .int 0])), (q1, .inl (cA, zI 160))] := hD
  exact W.vret hx hb hr (fun t ht hW => ⟨⟨(q1, cA), rfl, trivial, by rw [ht]; exact hP, va_K.moved hW.alike hK, hD⟩, hS.F ht⟩) hS.2.2 dX4_init_18
