/-! CONSTRUCTORS 3: Advice, Fleet, Keepsake, Reader, Rules, Sheet, Yard (printed by gen_ctor2.py) -/
theorem dX1_init_0 : decode cX1_init 0 = .ok (.aload_n 0, 1) := by decide +kernel
theorem dX1_init_1 : decode cX1_init 1 = .ok (.invokespecial 3, 3) := by decide +kernel
theorem dX1_init_4 : decode cX1_init 4 = .ok (.aload_n 0, 1) := by decide +kernel
theorem dX1_init_5 : decode cX1_init 5 = .ok (.bipush 6, 2) := by decide +kernel
theorem dX1_init_7 : decode cX1_init 7 = .ok (.bipush 6, 2) := by decide +kernel
theorem dX1_init_9 : decode cX1_init 9 = .ok (.multianewarray 9 2, 4) := by decide +kernel
theorem dX1_init_13 : decode cX1_init 13 = .ok (.putfield 11, 3) := by decide +kernel
theorem dX1_init_16 : decode cX1_init 16 = .ok (.return_, 1) := by decide +kernel
set_option maxHeartbeats 4000000 in
set_option maxRecDepth 100000 in
theorem c_X1 (l : Launch) (dC : Nat → ClassId) (dI : Nat → Nat → Nat) (Aa : Nat → ClassId) (h0 sz : Nat) : CT l dC dI Aa yX1_init cX1_init 1 1 [.null, .int 0] [] (fun u => u 1 0 = h0) ([(1, 0), (2, 0), (3, 0), (3, 1), (3, 2), (3, 3), (3, 4), (3, 5)]) 7 42 h0 sz := by
  refine Met.ofW (cc := cX1_init) (maxL := 1) (ret := none) (by decide) rfl ?_
  intro p e s m args below meth c s₁ B hml hv
  obtain ⟨rfl, hsz, hP, hK, hov, hD0⟩ := hv
  have hx := B.exec
  have hb := B.bytes
  have hr := B.returns
  have hts := atoms_spec (ws := Cond.code yX1_init cX1_init 1 none :: gws) B.pre
  have hgs : ∀ w ∈ gws, w.before (Value.ref h0 :: []).toArray s = true := fun w hw => hts w (List.mem_cons_of_mem _ hw)
  have hown : s.vm.findClass (RO 1) = some m.cls := findClass_of_methodNamed B.named
  have hin : meth.name = "<init>" := (name_of_methodNamed B.named B.method).1
  subst hsz
  have hD := hD0.self (sz := s.heap.size)
  generalize hAe : va_A [(h0, .inr (1, [.null, .int 0]))] s.heap.size = A at hD ⊢
  have hA : ∀ q : Nat, s.heap.size ≤ q → A q := fun q h => by rw [← hAe]; exact Or.inr h
  have hS : va_S A s.heap s.heap [] := va_S.rf
  have hl := lv_entry ([.ref h0]) (n := 1) (Nat.le_of_ble_eq_true rfl)
  rw [lg_entry_eq]
  generalize (lg_sl ([.ref h0]) ++ List.replicate (1 - (lg_sl ([.ref h0])).length) Slot.unset).toArray = ls at hl ⊢
  have hl : lv_has ls 1 [(0, .ref h0)] := hl
  refine lv_aload_n hx hb dX1_init_0 rfl (lv_at hl 0 rfl) ?_
  refine W.objInit hx hb hown (hgs (.methodLink (RO 1) 3 objectInit) (gws_1 31 (by decide +kernel) (by decide +kernel))) (hgs (.instanceMethod objectInit) (gws_1 24 (by decide +kernel) (by decide +kernel))) (hgs (.code objectInit ⟨#[0xb1]⟩ 1 none) (gws_1 25 (by decide +kernel) (by decide +kernel))) rfl (by rw [hml]; exact hl.1) rfl dX1_init_1 (Nat.le_of_ble_eq_true rfl) (Nat.le_of_ble_eq_true rfl) ?_
  refine W.eq (g2 := F0 m 4 ls []) rfl ?_
  refine lv_aload_n hx hb dX1_init_4 rfl (lv_at hl 0 rfl) ?_
  refine lv_bipush hx hb dX1_init_5 rfl ?_
  refine lv_bipush hx hb dX1_init_7 rfl ?_
  refine nw_mna (N' := 6) (K' := 6) hx hb hown (hgs (.classLink (RO 1) 9 "[[I") (gws_1 32 (by decide +kernel) (by decide +kernel))) hov hK hP hD hS hA (by decide) (by decide) (by decide +kernel) (by decide +kernel) (Nat.le_of_ble_eq_true rfl) (Nat.le_of_ble_eq_true rfl) (Nat.le_of_ble_eq_true rfl) (Nat.le_of_ble_eq_true rfl) dX1_init_9 (fun q1 r1 H hP hD hS => ?_)
  have hP : va_P (dC, dI) scl ((h0, .inr (1, [.null, .int 0])) :: ([] ++ ((q1, .inl (Aa 2, zQ 6 r1)) :: (List.range 6).map (fun i => (r1 i, .inl (Aa 0, zI 6)))))) H := hP
  have hD : va_D A ((h0, .inr (1, [.null, .int 0])) :: ([] ++ ((q1, .inl (Aa 2, zQ 6 r1)) :: (List.range 6).map (fun i => (r1 i, .inl (Aa 0, zI 6)))))) := hD
  refine nw_put (o := 1) (k := 0) (v := .ref q1) hx hb hgs hown hin hK hP hD hS (by decide) rfl rfl rfl rfl (Nat.le_of_ble_eq_true rfl) dX1_init_13 (fun H locs hP hD hS => ?_)
  have hP : va_P (dC, dI) scl ((h0, .inr (1, [.ref q1, .int 0])) :: ([] ++ ((q1, .inl (Aa 2, zQ 6 r1)) :: (List.range 6).map (fun i => (r1 i, .inl (Aa 0, zI 6)))))) H := hP
  have hD : va_D A ((h0, .inr (1, [.ref q1, .int 0])) :: ([] ++ ((q1, .inl (Aa 2, zQ 6 r1)) :: (List.range 6).map (fun i => (r1 i, .inl (Aa 0, zI 6)))))) := hD
  refine W.vret hx hb hr (fun t ht hW => ⟨⟨(fun c j => if c = 1 then h0 else if c = 2 then q1 else r1 j), rfl, rfl, ?_, ?_⟩, hS.F ht⟩) hS.2.2 dX1_init_16
  · rw [ht]; exact hP
  · exact hD
theorem dX2_init_0 : decode cX2_init 0 = .ok (.aload_n 0, 1) := by decide +kernel
theorem dX2_init_1 : decode cX2_init 1 = .ok (.invokespecial 3, 3) := by decide +kernel
theorem dX2_init_4 : decode cX2_init 4 = .ok (.aload_n 0, 1) := by decide +kernel
theorem dX2_init_5 : decode cX2_init 5 = .ok (.iconst 5, 1) := by decide +kernel
theorem dX2_init_6 : decode cX2_init 6 = .ok (.bipush 6, 2) := by decide +kernel
theorem dX2_init_8 : decode cX2_init 8 = .ok (.multianewarray 9 2, 4) := by decide +kernel
theorem dX2_init_12 : decode cX2_init 12 = .ok (.putfield 11, 3) := by decide +kernel
theorem dX2_init_15 : decode cX2_init 15 = .ok (.aload_n 0, 1) := by decide +kernel
theorem dX2_init_16 : decode cX2_init 16 = .ok (.iconst (-1), 1) := by decide +kernel
theorem dX2_init_17 : decode cX2_init 17 = .ok (.putfield 16, 3) := by decide +kernel
theorem dX2_init_20 : decode cX2_init 20 = .ok (.return_, 1) := by decide +kernel
set_option maxHeartbeats 4000000 in
set_option maxRecDepth 100000 in
theorem c_X2 (l : Launch) (dC : Nat → ClassId) (dI : Nat → Nat → Nat) (Aa : Nat → ClassId) (h0 sz : Nat) : CT l dC dI Aa yX2_init cX2_init 1 2 [.null, .int 0, .int 0] [] (fun u => u 26 0 = h0) ([(26, 0), (27, 0), (28, 0), (28, 1), (28, 2), (28, 3), (28, 4)]) 6 35 h0 sz := by
  refine Met.ofW (cc := cX2_init) (maxL := 1) (ret := none) (by decide) rfl ?_
  intro p e s m args below meth c s₁ B hml hv
  obtain ⟨rfl, hsz, hP, hK, hov, hD0⟩ := hv
  have hx := B.exec
  have hb := B.bytes
  have hr := B.returns
  have hts := atoms_spec (ws := Cond.code yX2_init cX2_init 1 none :: gws) B.pre
  have hgs : ∀ w ∈ gws, w.before (Value.ref h0 :: []).toArray s = true := fun w hw => hts w (List.mem_cons_of_mem _ hw)
  have hown : s.vm.findClass (RO 2) = some m.cls := findClass_of_methodNamed B.named
  have hin : meth.name = "<init>" := (name_of_methodNamed B.named B.method).1
  subst hsz
  have hD := hD0.self (sz := s.heap.size)
  generalize hAe : va_A [(h0, .inr (2, [.null, .int 0, .int 0]))] s.heap.size = A at hD ⊢
  have hA : ∀ q : Nat, s.heap.size ≤ q → A q := fun q h => by rw [← hAe]; exact Or.inr h
  have hS : va_S A s.heap s.heap [] := va_S.rf
  have hl := lv_entry ([.ref h0]) (n := 1) (Nat.le_of_ble_eq_true rfl)
  rw [lg_entry_eq]
  generalize (lg_sl ([.ref h0]) ++ List.replicate (1 - (lg_sl ([.ref h0])).length) Slot.unset).toArray = ls at hl ⊢
  have hl : lv_has ls 1 [(0, .ref h0)] := hl
  refine lv_aload_n hx hb dX2_init_0 rfl (lv_at hl 0 rfl) ?_
  refine W.objInit hx hb hown (hgs (.methodLink (RO 2) 3 objectInit) (gws_1 185 (by decide +kernel) (by decide +kernel))) (hgs (.instanceMethod objectInit) (gws_1 24 (by decide +kernel) (by decide +kernel))) (hgs (.code objectInit ⟨#[0xb1]⟩ 1 none) (gws_1 25 (by decide +kernel) (by decide +kernel))) rfl (by rw [hml]; exact hl.1) rfl dX2_init_1 (Nat.le_of_ble_eq_true rfl) (Nat.le_of_ble_eq_true rfl) ?_
  refine W.eq (g2 := F0 m 4 ls []) rfl ?_
  refine lv_aload_n hx hb dX2_init_4 rfl (lv_at hl 0 rfl) ?_
  refine lv_iconst hx hb dX2_init_5 rfl ?_
  refine lv_bipush hx hb dX2_init_6 rfl ?_
  refine nw_mna (N' := 5) (K' := 6) hx hb hown (hgs (.classLink (RO 2) 9 "[[I") (gws_1 186 (by decide +kernel) (by decide +kernel))) hov hK hP hD hS hA (by decide) (by decide) (by decide +kernel) (by decide +kernel) (Nat.le_of_ble_eq_true rfl) (Nat.le_of_ble_eq_true rfl) (Nat.le_of_ble_eq_true rfl) (Nat.le_of_ble_eq_true rfl) dX2_init_8 (fun q1 r1 H hP hD hS => ?_)
  have hP : va_P (dC, dI) scl ((h0, .inr (2, [.null, .int 0, .int 0])) :: ([] ++ ((q1, .inl (Aa 2, zQ 5 r1)) :: (List.range 5).map (fun i => (r1 i, .inl (Aa 0, zI 6)))))) H := hP
  have hD : va_D A ((h0, .inr (2, [.null, .int 0, .int 0])) :: ([] ++ ((q1, .inl (Aa 2, zQ 5 r1)) :: (List.range 5).map (fun i => (r1 i, .inl (Aa 0, zI 6)))))) := hD
  refine nw_put (o := 2) (k := 0) (v := .ref q1) hx hb hgs hown hin hK hP hD hS (by decide) rfl rfl rfl rfl (Nat.le_of_ble_eq_true rfl) dX2_init_12 (fun H locs hP hD hS => ?_)
  have hP : va_P (dC, dI) scl ((h0, .inr (2, [.ref q1, .int 0, .int 0])) :: ([] ++ ((q1, .inl (Aa 2, zQ 5 r1)) :: (List.range 5).map (fun i => (r1 i, .inl (Aa 0, zI 6)))))) H := hP
  have hD : va_D A ((h0, .inr (2, [.ref q1, .int 0, .int 0])) :: ([] ++ ((q1, .inl (Aa 2, zQ 5 r1)) :: (List.range 5).map (fun i => (r1 i, .inl (Aa 0, zI 6)))))) := hD
  refine lv_aload_n hx hb dX2_init_15 rfl (lv_at hl 0 rfl) ?_
  refine lv_iconst hx hb dX2_init_16 rfl ?_
  refine nw_put (o := 2) (k := 1) (v := .int (-1)) hx hb hgs hown hin hK hP hD hS (by decide) rfl rfl rfl rfl (Nat.le_of_ble_eq_true rfl) dX2_init_17 (fun H locs hP hD hS => ?_)
  have hP : va_P (dC, dI) scl ((h0, .inr (2, [.ref q1, .int (-1), .int 0])) :: ([] ++ ((q1, .inl (Aa 2, zQ 5 r1)) :: (List.range 5).map (fun i => (r1 i, .inl (Aa 0, zI 6)))))) H := hP
  have hD : va_D A ((h0, .inr (2, [.ref q1, .int (-1), .int 0])) :: ([] ++ ((q1, .inl (Aa 2, zQ 5 r1)) :: (List.range 5).map (fun i => (r1 i, .inl (Aa 0, zI 6)))))) := hD
  refine W.vret hx hb hr (fun t ht hW => ⟨⟨(fun c j => if c = 26 then h0 else if c = 27 then q1 else r1 j), rfl, rfl, ?_, ?_⟩, hS.F ht⟩) hS.2.2 dX2_init_20
  · rw [ht]; exact hP
  · exact hD
theorem dX5_init_0 : decode cX5_init 0 = .ok (.aload_n 0, 1) := by decide +kernel
theorem dX5_init_1 : decode cX5_init 1 = .ok (.invokespecial 3, 3) := by decide +kernel
theorem dX5_init_4 : decode cX5_init 4 = .ok (.aload_n 0, 1) := by decide +kernel
theorem dX5_init_5 : decode cX5_init 5 = .ok (.bipush 6, 2) := by decide +kernel
theorem dX5_init_7 : decode cX5_init 7 = .ok (.sipush 160, 3) := by decide +kernel
theorem dX5_init_10 : decode cX5_init 10 = .ok (.multianewarray 9 2, 4) := by decide +kernel
theorem dX5_init_14 : decode cX5_init 14 = .ok (.putfield 11, 3) := by decide +kernel
theorem dX5_init_17 : decode cX5_init 17 = .ok (.aload_n 0, 1) := by decide +kernel
theorem dX5_init_18 : decode cX5_init 18 = .ok (.bipush 6, 2) := by decide +kernel
theorem dX5_init_20 : decode cX5_init 20 = .ok (.iconst 3, 1) := by decide +kernel
theorem dX5_init_21 : decode cX5_init 21 = .ok (.multianewarray 9 2, 4) := by decide +kernel
theorem dX5_init_25 : decode cX5_init 25 = .ok (.putfield 16, 3) := by decide +kernel
theorem dX5_init_28 : decode cX5_init 28 = .ok (.aload_n 0, 1) := by decide +kernel
theorem dX5_init_29 : decode cX5_init 29 = .ok (.sipush 160, 3) := by decide +kernel
theorem dX5_init_32 : decode cX5_init 32 = .ok (.newarray .int, 2) := by decide +kernel
theorem dX5_init_34 : decode cX5_init 34 = .ok (.putfield 19, 3) := by decide +kernel
theorem dX5_init_37 : decode cX5_init 37 = .ok (.aload_n 0, 1) := by decide +kernel
theorem dX5_init_38 : decode cX5_init 38 = .ok (.bipush 6, 2) := by decide +kernel
theorem dX5_init_40 : decode cX5_init 40 = .ok (.newarray .int, 2) := by decide +kernel
theorem dX5_init_42 : decode cX5_init 42 = .ok (.putfield 23, 3) := by decide +kernel
theorem dX5_init_45 : decode cX5_init 45 = .ok (.return_, 1) := by decide +kernel
set_option maxHeartbeats 4000000 in
set_option maxRecDepth 100000 in
theorem c_X5 (l : Launch) (dC : Nat → ClassId) (dI : Nat → Nat → Nat) (Aa : Nat → ClassId) (h0 sz : Nat) : CT l dC dI Aa yX5_init cX5_init 1 5 [.null, .null, .null, .null, .int 0, .int 0, .int 0] [] (fun u => u 4 0 = h0) ([(4, 0), (5, 0), (6, 0), (6, 1), (6, 2), (6, 3), (6, 4), (6, 5), (7, 0), (8, 0), (8, 1), (8, 2), (8, 3), (8, 4), (8, 5), (9, 0), (10, 0)]) 16 1156 h0 sz := by
  refine Met.ofW (cc := cX5_init) (maxL := 1) (ret := none) (by decide) rfl ?_
  intro p e s m args below meth c s₁ B hml hv
  obtain ⟨rfl, hsz, hP, hK, hov, hD0⟩ := hv
  have hx := B.exec
  have hb := B.bytes
  have hr := B.returns
  have hts := atoms_spec (ws := Cond.code yX5_init cX5_init 1 none :: gws) B.pre
  have hgs : ∀ w ∈ gws, w.before (Value.ref h0 :: []).toArray s = true := fun w hw => hts w (List.mem_cons_of_mem _ hw)
  have hown : s.vm.findClass (RO 5) = some m.cls := findClass_of_methodNamed B.named
  have hin : meth.name = "<init>" := (name_of_methodNamed B.named B.method).1
  subst hsz
  have hD := hD0.self (sz := s.heap.size)
  generalize hAe : va_A [(h0, .inr (5, [.null, .null, .null, .null, .int 0, .int 0, .int 0]))] s.heap.size = A at hD ⊢
  have hA : ∀ q : Nat, s.heap.size ≤ q → A q := fun q h => by rw [← hAe]; exact Or.inr h
  have hS : va_S A s.heap s.heap [] := va_S.rf
  have hl := lv_entry ([.ref h0]) (n := 1) (Nat.le_of_ble_eq_true rfl)
  rw [lg_entry_eq]
  generalize (lg_sl ([.ref h0]) ++ List.replicate (1 - (lg_sl ([.ref h0])).length) Slot.unset).toArray = ls at hl ⊢
  have hl : lv_has ls 1 [(0, .ref h0)] := hl
  refine lv_aload_n hx hb dX5_init_0 rfl (lv_at hl 0 rfl) ?_
  refine W.objInit hx hb hown (hgs (.methodLink (RO 5) 3 objectInit) (gws_1 47 (by decide +kernel) (by decide +kernel))) (hgs (.instanceMethod objectInit) (gws_1 24 (by decide +kernel) (by decide +kernel))) (hgs (.code objectInit ⟨#[0xb1]⟩ 1 none) (gws_1 25 (by decide +kernel) (by decide +kernel))) rfl (by rw [hml]; exact hl.1) rfl dX5_init_1 (Nat.le_of_ble_eq_true rfl) (Nat.le_of_ble_eq_true rfl) ?_
  refine W.eq (g2 := F0 m 4 ls []) rfl ?_
  refine lv_aload_n hx hb dX5_init_4 rfl (lv_at hl 0 rfl) ?_
  refine lv_bipush hx hb dX5_init_5 rfl ?_
  refine lv_sipush hx hb dX5_init_7 rfl ?_
  refine nw_mna (N' := 6) (K' := 160) hx hb hown (hgs (.classLink (RO 5) 9 "[[I") (gws_1 48 (by decide +kernel) (by decide +kernel))) hov hK hP hD hS hA (by decide) (by decide) (by decide +kernel) (by decide +kernel) (Nat.le_of_ble_eq_true rfl) (Nat.le_of_ble_eq_true rfl) (Nat.le_of_ble_eq_true rfl) (Nat.le_of_ble_eq_true rfl) dX5_init_10 (fun q1 r1 H hP hD hS => ?_)
  have hP : va_P (dC, dI) scl ((h0, .inr (5, [.null, .null, .null, .null, .int 0, .int 0, .int 0])) :: ([] ++ ((q1, .inl (Aa 2, zQ 6 r1)) :: (List.range 6).map (fun i => (r1 i, .inl (Aa 0, zI 160)))))) H := hP
  have hD : va_D A ((h0, .inr (5, [.null, .null, .null, .null, .int 0, .int 0, .int 0])) :: ([] ++ ((q1, .inl (Aa 2, zQ 6 r1)) :: (List.range 6).map (fun i => (r1 i, .inl (Aa 0, zI 160)))))) := hD
  refine nw_put (o := 5) (k := 0) (v := .ref q1) hx hb hgs hown hin hK hP hD hS (by decide) rfl rfl rfl rfl (Nat.le_of_ble_eq_true rfl) dX5_init_14 (fun H locs hP hD hS => ?_)
  have hP : va_P (dC, dI) scl ((h0, .inr (5, [.ref q1, .null, .null, .null, .int 0, .int 0, .int 0])) :: ([] ++ ((q1, .inl (Aa 2, zQ 6 r1)) :: (List.range 6).map (fun i => (r1 i, .inl (Aa 0, zI 160)))))) H := hP
  have hD : va_D A ((h0, .inr (5, [.ref q1, .null, .null, .null, .int 0, .int 0, .int 0])) :: ([] ++ ((q1, .inl (Aa 2, zQ 6 r1)) :: (List.range 6).map (fun i => (r1 i, .inl (Aa 0, zI 160)))))) := hD
  refine lv_aload_n hx hb dX5_init_17 rfl (lv_at hl 0 rfl) ?_
  refine lv_bipush hx hb dX5_init_18 rfl ?_
  refine lv_iconst hx hb dX5_init_20 rfl ?_
  refine nw_mna (N' := 6) (K' := 3) hx hb hown (hgs (.classLink (RO 5) 9 "[[I") (gws_1 48 (by decide +kernel) (by decide +kernel))) hov hK hP hD hS hA (by decide) (by decide) (by decide +kernel) (by decide +kernel) (Nat.le_of_ble_eq_true rfl) (Nat.le_of_ble_eq_true rfl) (Nat.le_of_ble_eq_true rfl) (Nat.le_of_ble_eq_true rfl) dX5_init_21 (fun q2 r2 H hP hD hS => ?_)
  have hP : va_P (dC, dI) scl ((h0, .inr (5, [.ref q1, .null, .null, .null, .int 0, .int 0, .int 0])) :: ([] ++ ((q1, .inl (Aa 2, zQ 6 r1)) :: (List.range 6).map (fun i => (r1 i, .inl (Aa 0, zI 160)))) ++ ((q2, .inl (Aa 2, zQ 6 r2)) :: (List.range 6).map (fun i => (r2 i, .inl (Aa 0, zI 3)))))) H := hP
  have hD : va_D A ((h0, .inr (5, [.ref q1, .null, .null, .null, .int 0, .int 0, .int 0])) :: ([] ++ ((q1, .inl (Aa 2, zQ 6 r1)) :: (List.range 6).map (fun i => (r1 i, .inl (Aa 0, zI 160)))) ++ ((q2, .inl (Aa 2, zQ 6 r2)) :: (List.range 6).map (fun i => (r2 i, .inl (Aa 0, zI 3)))))) := hD
  refine nw_put (o := 5) (k := 1) (v := .ref q2) hx hb hgs hown hin hK hP hD hS (by decide) rfl rfl rfl rfl (Nat.le_of_ble_eq_true rfl) dX5_init_25 (fun H locs hP hD hS => ?_)
  have hP : va_P (dC, dI) scl ((h0, .inr (5, [.ref q1, .ref q2, .null, .null, .int 0, .int 0, .int 0])) :: ([] ++ ((q1, .inl (Aa 2, zQ 6 r1)) :: (List.range 6).map (fun i => (r1 i, .inl (Aa 0, zI 160)))) ++ ((q2, .inl (Aa 2, zQ 6 r2)) :: (List.range 6).map (fun i => (r2 i, .inl (Aa 0, zI 3)))))) H := hP
  have hD : va_D A ((h0, .inr (5, [.ref q1, .ref q2, .null, .null, .int 0, .int 0, .int 0])) :: ([] ++ ((q1, .inl (Aa 2, zQ 6 r1)) :: (List.range 6).map (fun i => (r1 i, .inl (Aa 0, zI 160)))) ++ ((q2, .inl (Aa 2, zQ 6 r2)) :: (List.range 6).map (fun i => (r2 i, .inl (Aa 0, zI 3)))))) := hD
  refine lv_aload_n hx hb dX5_init_28 rfl (lv_at hl 0 rfl) ?_
  refine lv_sipush hx hb dX5_init_29 rfl ?_
  refine nw_int (N' := 160) hx hb (hgs (.arrayClass .int) (gws_1 41 (by decide +kernel) (by decide +kernel))) hK hP hD hS hA (by decide) (by decide +kernel) (Nat.le_of_ble_eq_true rfl) (Nat.le_of_ble_eq_true rfl) (Nat.le_of_ble_eq_true rfl) dX5_init_32 (fun q3 H hP hD hS => ?_)
  have hP : va_P (dC, dI) scl ((h0, .inr (5, [.ref q1, .ref q2, .null, .null, .int 0, .int 0, .int 0])) :: ([] ++ ((q1, .inl (Aa 2, zQ 6 r1)) :: (List.range 6).map (fun i => (r1 i, .inl (Aa 0, zI 160)))) ++ ((q2, .inl (Aa 2, zQ 6 r2)) :: (List.range 6).map (fun i => (r2 i, .inl (Aa 0, zI 3)))) ++ [(q3, .inl (Aa 0, zI 160))])) H := hP
  have hD : va_D A ((h0, .inr (5, [.ref q1, .ref q2, .null, .null, .int 0, .int 0, .int 0])) :: ([] ++ ((q1, .inl (Aa 2, zQ 6 r1)) :: (List.range 6).map (fun i => (r1 i, .inl (Aa 0, zI 160)))) ++ ((q2, .inl (Aa 2, zQ 6 r2)) :: (List.range 6).map (fun i => (r2 i, .inl (Aa 0, zI 3)))) ++ [(q3, .inl (Aa 0, zI 160))])) := hD
  refine nw_put (o := 5) (k := 2) (v := .ref q3) hx hb hgs hown hin hK hP hD hS (by decide) rfl rfl rfl rfl (Nat.le_of_ble_eq_true rfl) dX5_init_34 (fun H locs hP hD hS => ?_)
  have hP : va_P (dC, dI) scl ((h0, .inr (5, [.ref q1, .ref q2, .ref q3, .null, .int 0, .int 0, .int 0])) :: ([] ++ ((q1, .inl (Aa 2, zQ 6 r1)) :: (List.range 6).map (fun i => (r1 i, .inl (Aa 0, zI 160)))) ++ ((q2, .inl (Aa 2, zQ 6 r2)) :: (List.range 6).map (fun i => (r2 i, .inl (Aa 0, zI 3)))) ++ [(q3, .inl (Aa 0, zI 160))])) H := hP
  have hD : va_D A ((h0, .inr (5, [.ref q1, .ref q2, .ref q3, .null, .int 0, .int 0, .int 0])) :: ([] ++ ((q1, .inl (Aa 2, zQ 6 r1)) :: (List.range 6).map (fun i => (r1 i, .inl (Aa 0, zI 160)))) ++ ((q2, .inl (Aa 2, zQ 6 r2)) :: (List.range 6).map (fun i => (r2 i, .inl (Aa 0, zI 3)))) ++ [(q3, .inl (Aa 0, zI 160))])) := hD
  refine lv_aload_n hx hb dX5_init_37 rfl (lv_at hl 0 rfl) ?_
  refine lv_bipush hx hb dX5_init_38 rfl ?_
  refine nw_int (N' := 6) hx hb (hgs (.arrayClass .int) (gws_1 41 (by decide +kernel) (by decide +kernel))) hK hP hD hS hA (by decide) (by decide +kernel) (Nat.le_of_ble_eq_true rfl) (Nat.le_of_ble_eq_true rfl) (Nat.le_of_ble_eq_true rfl) dX5_init_40 (fun q4 H hP hD hS => ?_)
  have hP : va_P (dC, dI) scl ((h0, .inr (5, [.ref q1, .ref q2, .ref q3, .null, .int 0, .int 0, .int 0])) :: ([] ++ ((q1, .inl (Aa 2, zQ 6 r1)) :: (List.range 6).map (fun i => (r1 i, .inl (Aa 0, zI 160)))) ++ ((q2, .inl (Aa 2, zQ 6 r2)) :: (List.range 6).map (fun i => (r2 i, .inl (Aa 0, zI 3)))) ++ [(q3, .inl (Aa 0, zI 160))] ++ [(q4, .inl (Aa 0, zI 6))])) H := hP
  have hD : va_D A ((h0, .inr (5, [.ref q1, .ref q2, .ref q3, .null, .int 0, .int 0, .int 0])) :: ([] ++ ((q1, .inl (Aa 2, zQ 6 r1)) :: (List.range 6).map (fun i => (r1 i, .inl (Aa 0, zI 160)))) ++ ((q2, .inl (Aa 2, zQ 6 r2)) :: (List.range 6).map (fun i => (r2 i, .inl (Aa 0, zI 3)))) ++ [(q3, .inl (Aa 0, zI 160))] ++ [(q4, .inl (Aa 0, zI 6))])) := hD
  refine nw_put (o := 5) (k := 3) (v := .ref q4) hx hb hgs hown hin hK hP hD hS (by decide) rfl rfl rfl rfl (Nat.le_of_ble_eq_true rfl) dX5_init_42 (fun H locs hP hD hS => ?_)
  have hP : va_P (dC, dI) scl ((h0, .inr (5, [.ref q1, .ref q2, .ref q3, .ref q4, .int 0, .int 0, .int 0])) :: ([] ++ ((q1, .inl (Aa 2, zQ 6 r1)) :: (List.range 6).map (fun i => (r1 i, .inl (Aa 0, zI 160)))) ++ ((q2, .inl (Aa 2, zQ 6 r2)) :: (List.range 6).map (fun i => (r2 i, .inl (Aa 0, zI 3)))) ++ [(q3, .inl (Aa 0, zI 160))] ++ [(q4, .inl (Aa 0, zI 6))])) H := hP
  have hD : va_D A ((h0, .inr (5, [.ref q1, .ref q2, .ref q3, .ref q4, .int 0, .int 0, .int 0])) :: ([] ++ ((q1, .inl (Aa 2, zQ 6 r1)) :: (List.range 6).map (fun i => (r1 i, .inl (Aa 0, zI 160)))) ++ ((q2, .inl (Aa 2, zQ 6 r2)) :: (List.range 6).map (fun i => (r2 i, .inl (Aa 0, zI 3)))) ++ [(q3, .inl (Aa 0, zI 160))] ++ [(q4, .inl (Aa 0, zI 6))])) := hD
  refine W.vret hx hb hr (fun t ht hW => ⟨⟨(fun c j => if c = 4 then h0 else if c = 5 then q1 else if c = 6 then r1 j else if c = 7 then q2 else if c = 8 then r2 j else if c = 9 then q3 else q4), rfl, rfl, ?_, ?_⟩, hS.F ht⟩) hS.2.2 dX5_init_45
  · rw [ht]; exact hP
  · exact hD
theorem dX4_init_0 : decode cX4_init 0 = .ok (.aload_n 0, 1) := by decide +kernel
theorem dX4_init_1 : decode cX4_init 1 = .ok (.invokespecial 3, 3) := by decide +kernel
theorem dX4_init_4 : decode cX4_init 4 = .ok (.aload_n 0, 1) := by decide +kernel
theorem dX4_init_5 : decode cX4_init 5 = .ok (.sipush 160, 3) := by decide +kernel
theorem dX4_init_8 : decode cX4_init 8 = .ok (.newarray .int, 2) := by decide +kernel
theorem dX4_init_10 : decode cX4_init 10 = .ok (.putfield 9, 3) := by decide +kernel
theorem dX4_init_13 : decode cX4_init 13 = .ok (.aload_n 0, 1) := by decide +kernel
theorem dX4_init_14 : decode cX4_init 14 = .ok (.aload_n 1, 1) := by decide +kernel
theorem dX4_init_15 : decode cX4_init 15 = .ok (.putfield 15, 3) := by decide +kernel
theorem dX4_init_18 : decode cX4_init 18 = .ok (.return_, 1) := by decide +kernel
set_option maxHeartbeats 4000000 in
set_option maxRecDepth 100000 in
theorem c_X4 (l : Launch) (dC : Nat → ClassId) (dI : Nat → Nat → Nat) (Aa : Nat → ClassId) (h0 h1 sz : Nat) : CT l dC dI Aa yX4_init cX4_init 2 4 [.null, .null, .int 0, .int 0, .int 0, .int 0, .int 0] [.ref h1] (fun u => u 11 0 = h0 ∧ u 4 0 = h1) ([(11, 0), (12, 0)]) 1 160 h0 sz := by
  refine Met.ofW (cc := cX4_init) (maxL := 2) (ret := none) (by decide) rfl ?_
  intro p e s m args below meth c s₁ B hml hv
  obtain ⟨rfl, hsz, hP, hK, hov, hD0⟩ := hv
  have hx := B.exec
  have hb := B.bytes
  have hr := B.returns
  have hts := atoms_spec (ws := Cond.code yX4_init cX4_init 2 none :: gws) B.pre
  have hgs : ∀ w ∈ gws, w.before (Value.ref h0 :: [.ref h1]).toArray s = true := fun w hw => hts w (List.mem_cons_of_mem _ hw)
  have hown : s.vm.findClass (RO 4) = some m.cls := findClass_of_methodNamed B.named
  have hin : meth.name = "<init>" := (name_of_methodNamed B.named B.method).1
  subst hsz
  have hD := hD0.self (sz := s.heap.size)
  generalize hAe : va_A [(h0, .inr (4, [.null, .null, .int 0, .int 0, .int 0, .int 0, .int 0]))] s.heap.size = A at hD ⊢
  have hA : ∀ q : Nat, s.heap.size ≤ q → A q := fun q h => by rw [← hAe]; exact Or.inr h
  have hS : va_S A s.heap s.heap [] := va_S.rf
  have hl := lv_entry ([.ref h0, .ref h1]) (n := 2) (Nat.le_of_ble_eq_true rfl)
  rw [lg_entry_eq]
  generalize (lg_sl ([.ref h0, .ref h1]) ++ List.replicate (2 - (lg_sl ([.ref h0, .ref h1])).length) Slot.unset).toArray = ls at hl ⊢
  have hl : lv_has ls 2 [(0, .ref h0), (1, .ref h1)] := hl
  refine lv_aload_n hx hb dX4_init_0 rfl (lv_at hl 0 rfl) ?_
  refine W.objInit hx hb hown (hgs (.methodLink (RO 4) 3 objectInit) (gws_1 76 (by decide +kernel) (by decide +kernel))) (hgs (.instanceMethod objectInit) (gws_1 24 (by decide +kernel) (by decide +kernel))) (hgs (.code objectInit ⟨#[0xb1]⟩ 1 none) (gws_1 25 (by decide +kernel) (by decide +kernel))) rfl (by rw [hml]; exact hl.1) rfl dX4_init_1 (Nat.le_of_ble_eq_true rfl) (Nat.le_of_ble_eq_true rfl) ?_
  refine W.eq (g2 := F0 m 4 ls []) rfl ?_
  refine lv_aload_n hx hb dX4_init_4 rfl (lv_at hl 0 rfl) ?_
  refine lv_sipush hx hb dX4_init_5 rfl ?_
  refine nw_int (N' := 160) hx hb (hgs (.arrayClass .int) (gws_1 41 (by decide +kernel) (by decide +kernel))) hK hP hD hS hA (by decide) (by decide +kernel) (Nat.le_of_ble_eq_true rfl) (Nat.le_of_ble_eq_true rfl) (Nat.le_of_ble_eq_true rfl) dX4_init_8 (fun q1 H hP hD hS => ?_)
  have hP : va_P (dC, dI) scl ((h0, .inr (4, [.null, .null, .int 0, .int 0, .int 0, .int 0, .int 0])) :: ([] ++ [(q1, .inl (Aa 0, zI 160))])) H := hP
  have hD : va_D A ((h0, .inr (4, [.null, .null, .int 0, .int 0, .int 0, .int 0, .int 0])) :: ([] ++ [(q1, .inl (Aa 0, zI 160))])) := hD
  refine nw_put (o := 4) (k := 1) (v := .ref q1) hx hb hgs hown hin hK hP hD hS (by decide) rfl rfl rfl rfl (Nat.le_of_ble_eq_true rfl) dX4_init_10 (fun H locs hP hD hS => ?_)
  have hP : va_P (dC, dI) scl ((h0, .inr (4, [.null, .ref q1, .int 0, .int 0, .int 0, .int 0, .int 0])) :: ([] ++ [(q1, .inl (Aa 0, zI 160))])) H := hP
  have hD : va_D A ((h0, .inr (4, [.null, .ref q1, .int 0, .int 0, .int 0, .int 0, .int 0])) :: ([] ++ [(q1, .inl (Aa 0, zI 160))])) := hD
  refine lv_aload_n hx hb dX4_init_13 rfl (lv_at hl 0 rfl) ?_
  refine lv_aload_n hx hb dX4_init_14 rfl (lv_at hl 1 rfl) ?_
  refine nw_put (o := 4) (k := 0) (v := .ref h1) hx hb hgs hown hin hK hP hD hS (by decide) rfl rfl rfl rfl (Nat.le_of_ble_eq_true rfl) dX4_init_15 (fun H locs hP hD hS => ?_)
  have hP : va_P (dC, dI) scl ((h0, .inr (4, [.ref h1, .ref q1, .int 0, .int 0, .int 0, .int 0, .int 0])) :: ([] ++ [(q1, .inl (Aa 0, zI 160))])) H := hP
  have hD : va_D A ((h0, .inr (4, [.ref h1, .ref q1, .int 0, .int 0, .int 0, .int 0, .int 0])) :: ([] ++ [(q1, .inl (Aa 0, zI 160))])) := hD
  refine W.vret hx hb hr (fun t ht hW => ⟨⟨(fun c _ => if c = 11 then h0 else if c = 12 then q1 else h1), rfl, ⟨rfl, rfl⟩, ?_, ?_⟩, hS.F ht⟩) hS.2.2 dX4_init_18
  · rw [ht]; exact hP
  · exact hD
theorem dX7_init_0 : decode cX7_init 0 = .ok (.aload_n 0, 1) := by decide +kernel
theorem dX7_init_1 : decode cX7_init 1 = .ok (.invokespecial 3, 3) := by decide +kernel
theorem dX7_init_4 : decode cX7_init 4 = .ok (.aload_n 0, 1) := by decide +kernel
theorem dX7_init_5 : decode cX7_init 5 = .ok (.iconst 4, 1) := by decide +kernel
theorem dX7_init_6 : decode cX7_init 6 = .ok (.newarray .int, 2) := by decide +kernel
theorem dX7_init_8 : decode cX7_init 8 = .ok (.putfield 9, 3) := by decide +kernel
theorem dX7_init_11 : decode cX7_init 11 = .ok (.aload_n 0, 1) := by decide +kernel
theorem dX7_init_12 : decode cX7_init 12 = .ok (.bipush 6, 2) := by decide +kernel
theorem dX7_init_14 : decode cX7_init 14 = .ok (.newarray .int, 2) := by decide +kernel
theorem dX7_init_16 : decode cX7_init 16 = .ok (.putfield 15, 3) := by decide +kernel
theorem dX7_init_19 : decode cX7_init 19 = .ok (.aload_n 0, 1) := by decide +kernel
theorem dX7_init_20 : decode cX7_init 20 = .ok (.bipush 6, 2) := by decide +kernel
theorem dX7_init_22 : decode cX7_init 22 = .ok (.newarray .int, 2) := by decide +kernel
theorem dX7_init_24 : decode cX7_init 24 = .ok (.putfield 18, 3) := by decide +kernel
theorem dX7_init_27 : decode cX7_init 27 = .ok (.aload_n 0, 1) := by decide +kernel
theorem dX7_init_28 : decode cX7_init 28 = .ok (.bipush 6, 2) := by decide +kernel
theorem dX7_init_30 : decode cX7_init 30 = .ok (.newarray .int, 2) := by decide +kernel
theorem dX7_init_32 : decode cX7_init 32 = .ok (.putfield 21, 3) := by decide +kernel
theorem dX7_init_35 : decode cX7_init 35 = .ok (.aload_n 0, 1) := by decide +kernel
theorem dX7_init_36 : decode cX7_init 36 = .ok (.bipush 6, 2) := by decide +kernel
theorem dX7_init_38 : decode cX7_init 38 = .ok (.newarray .int, 2) := by decide +kernel
theorem dX7_init_40 : decode cX7_init 40 = .ok (.putfield 24, 3) := by decide +kernel
theorem dX7_init_43 : decode cX7_init 43 = .ok (.aload_n 0, 1) := by decide +kernel
theorem dX7_init_44 : decode cX7_init 44 = .ok (.bipush 6, 2) := by decide +kernel
theorem dX7_init_46 : decode cX7_init 46 = .ok (.newarray .int, 2) := by decide +kernel
theorem dX7_init_48 : decode cX7_init 48 = .ok (.putfield 27, 3) := by decide +kernel
theorem dX7_init_51 : decode cX7_init 51 = .ok (.aload_n 0, 1) := by decide +kernel
theorem dX7_init_52 : decode cX7_init 52 = .ok (.bipush 6, 2) := by decide +kernel
theorem dX7_init_54 : decode cX7_init 54 = .ok (.newarray .int, 2) := by decide +kernel
theorem dX7_init_56 : decode cX7_init 56 = .ok (.putfield 30, 3) := by decide +kernel
theorem dX7_init_59 : decode cX7_init 59 = .ok (.aload_n 0, 1) := by decide +kernel
theorem dX7_init_60 : decode cX7_init 60 = .ok (.aload_n 1, 1) := by decide +kernel
theorem dX7_init_61 : decode cX7_init 61 = .ok (.putfield 33, 3) := by decide +kernel
theorem dX7_init_64 : decode cX7_init 64 = .ok (.aload_n 0, 1) := by decide +kernel
theorem dX7_init_65 : decode cX7_init 65 = .ok (.aload_n 2, 1) := by decide +kernel
theorem dX7_init_66 : decode cX7_init 66 = .ok (.putfield 37, 3) := by decide +kernel
theorem dX7_init_69 : decode cX7_init 69 = .ok (.return_, 1) := by decide +kernel
set_option maxHeartbeats 4000000 in
set_option maxRecDepth 100000 in
theorem c_X7 (l : Launch) (dC : Nat → ClassId) (dI : Nat → Nat → Nat) (Aa : Nat → ClassId) (h0 h1 h2 sz : Nat) : CT l dC dI Aa yX7_init cX7_init 3 7 [.null, .null, .null, .null, .null, .null, .null, .null, .null, .int 0, .int 0, .int 0, .int 0, .int 0, .int 0] [.ref h1, .ref h2] (fun u => u 13 0 = h0 ∧ u 1 0 = h1 ∧ u 4 0 = h2) ([(13, 0), (14, 0), (15, 0), (16, 0), (17, 0), (18, 0), (19, 0), (20, 0)]) 7 40 h0 sz := by
  refine Met.ofW (cc := cX7_init) (maxL := 3) (ret := none) (by decide) rfl ?_
  intro p e s m args below meth c s₁ B hml hv
  obtain ⟨rfl, hsz, hP, hK, hov, hD0⟩ := hv
  have hx := B.exec
  have hb := B.bytes
  have hr := B.returns
  have hts := atoms_spec (ws := Cond.code yX7_init cX7_init 3 none :: gws) B.pre
  have hgs : ∀ w ∈ gws, w.before (Value.ref h0 :: [.ref h1, .ref h2]).toArray s = true := fun w hw => hts w (List.mem_cons_of_mem _ hw)
  have hown : s.vm.findClass (RO 7) = some m.cls := findClass_of_methodNamed B.named
  have hin : meth.name = "<init>" := (name_of_methodNamed B.named B.method).1
  subst hsz
  have hD := hD0.self (sz := s.heap.size)
  generalize hAe : va_A [(h0, .inr (7, [.null, .null, .null, .null, .null, .null, .null, .null, .null, .int 0, .int 0, .int 0, .int 0, .int 0, .int 0]))] s.heap.size = A at hD ⊢
  have hA : ∀ q : Nat, s.heap.size ≤ q → A q := fun q h => by rw [← hAe]; exact Or.inr h
  have hS : va_S A s.heap s.heap [] := va_S.rf
  have hl := lv_entry ([.ref h0, .ref h1, .ref h2]) (n := 3) (Nat.le_of_ble_eq_true rfl)
  rw [lg_entry_eq]
  generalize (lg_sl ([.ref h0, .ref h1, .ref h2]) ++ List.replicate (3 - (lg_sl ([.ref h0, .ref h1, .ref h2])).length) Slot.unset).toArray = ls at hl ⊢
  have hl : lv_has ls 3 [(0, .ref h0), (1, .ref h1), (2, .ref h2)] := hl
  refine lv_aload_n hx hb dX7_init_0 rfl (lv_at hl 0 rfl) ?_
  refine W.objInit hx hb hown (hgs (.methodLink (RO 7) 3 objectInit) (gws_1 104 (by decide +kernel) (by decide +kernel))) (hgs (.instanceMethod objectInit) (gws_1 24 (by decide +kernel) (by decide +kernel))) (hgs (.code objectInit ⟨#[0xb1]⟩ 1 none) (gws_1 25 (by decide +kernel) (by decide +kernel))) rfl (by rw [hml]; exact hl.1) rfl dX7_init_1 (Nat.le_of_ble_eq_true rfl) (Nat.le_of_ble_eq_true rfl) ?_
  refine W.eq (g2 := F0 m 4 ls []) rfl ?_
  refine lv_aload_n hx hb dX7_init_4 rfl (lv_at hl 0 rfl) ?_
  refine lv_iconst hx hb dX7_init_5 rfl ?_
  refine nw_int (N' := 4) hx hb (hgs (.arrayClass .int) (gws_1 41 (by decide +kernel) (by decide +kernel))) hK hP hD hS hA (by decide) (by decide +kernel) (Nat.le_of_ble_eq_true rfl) (Nat.le_of_ble_eq_true rfl) (Nat.le_of_ble_eq_true rfl) dX7_init_6 (fun q1 H hP hD hS => ?_)
  have hP : va_P (dC, dI) scl ((h0, .inr (7, [.null, .null, .null, .null, .null, .null, .null, .null, .null, .int 0, .int 0, .int 0, .int 0, .int 0, .int 0])) :: ([] ++ [(q1, .inl (Aa 0, zI 4))])) H := hP
  have hD : va_D A ((h0, .inr (7, [.null, .null, .null, .null, .null, .null, .null, .null, .null, .int 0, .int 0, .int 0, .int 0, .int 0, .int 0])) :: ([] ++ [(q1, .inl (Aa 0, zI 4))])) := hD
  refine nw_put (o := 7) (k := 2) (v := .ref q1) hx hb hgs hown hin hK hP hD hS (by decide) rfl rfl rfl rfl (Nat.le_of_ble_eq_true rfl) dX7_init_8 (fun H locs hP hD hS => ?_)
  have hP : va_P (dC, dI) scl ((h0, .inr (7, [.null, .null, .ref q1, .null, .null, .null, .null, .null, .null, .int 0, .int 0, .int 0, .int 0, .int 0, .int 0])) :: ([] ++ [(q1, .inl (Aa 0, zI 4))])) H := hP
  have hD : va_D A ((h0, .inr (7, [.null, .null, .ref q1, .null, .null, .null, .null, .null, .null, .int 0, .int 0, .int 0, .int 0, .int 0, .int 0])) :: ([] ++ [(q1, .inl (Aa 0, zI 4))])) := hD
  refine lv_aload_n hx hb dX7_init_11 rfl (lv_at hl 0 rfl) ?_
  refine lv_bipush hx hb dX7_init_12 rfl ?_
  refine nw_int (N' := 6) hx hb (hgs (.arrayClass .int) (gws_1 41 (by decide +kernel) (by decide +kernel))) hK hP hD hS hA (by decide) (by decide +kernel) (Nat.le_of_ble_eq_true rfl) (Nat.le_of_ble_eq_true rfl) (Nat.le_of_ble_eq_true rfl) dX7_init_14 (fun q2 H hP hD hS => ?_)
  have hP : va_P (dC, dI) scl ((h0, .inr (7, [.null, .null, .ref q1, .null, .null, .null, .null, .null, .null, .int 0, .int 0, .int 0, .int 0, .int 0, .int 0])) :: ([] ++ [(q1, .inl (Aa 0, zI 4))] ++ [(q2, .inl (Aa 0, zI 6))])) H := hP
  have hD : va_D A ((h0, .inr (7, [.null, .null, .ref q1, .null, .null, .null, .null, .null, .null, .int 0, .int 0, .int 0, .int 0, .int 0, .int 0])) :: ([] ++ [(q1, .inl (Aa 0, zI 4))] ++ [(q2, .inl (Aa 0, zI 6))])) := hD
  refine nw_put (o := 7) (k := 3) (v := .ref q2) hx hb hgs hown hin hK hP hD hS (by decide) rfl rfl rfl rfl (Nat.le_of_ble_eq_true rfl) dX7_init_16 (fun H locs hP hD hS => ?_)
  have hP : va_P (dC, dI) scl ((h0, .inr (7, [.null, .null, .ref q1, .ref q2, .null, .null, .null, .null, .null, .int 0, .int 0, .int 0, .int 0, .int 0, .int 0])) :: ([] ++ [(q1, .inl (Aa 0, zI 4))] ++ [(q2, .inl (Aa 0, zI 6))])) H := hP
  have hD : va_D A ((h0, .inr (7, [.null, .null, .ref q1, .ref q2, .null, .null, .null, .null, .null, .int 0, .int 0, .int 0, .int 0, .int 0, .int 0])) :: ([] ++ [(q1, .inl (Aa 0, zI 4))] ++ [(q2, .inl (Aa 0, zI 6))])) := hD
  refine lv_aload_n hx hb dX7_init_19 rfl (lv_at hl 0 rfl) ?_
  refine lv_bipush hx hb dX7_init_20 rfl ?_
  refine nw_int (N' := 6) hx hb (hgs (.arrayClass .int) (gws_1 41 (by decide +kernel) (by decide +kernel))) hK hP hD hS hA (by decide) (by decide +kernel) (Nat.le_of_ble_eq_true rfl) (Nat.le_of_ble_eq_true rfl) (Nat.le_of_ble_eq_true rfl) dX7_init_22 (fun q3 H hP hD hS => ?_)
  have hP : va_P (dC, dI) scl ((h0, .inr (7, [.null, .null, .ref q1, .ref q2, .null, .null, .null, .null, .null, .int 0, .int 0, .int 0, .int 0, .int 0, .int 0])) :: ([] ++ [(q1, .inl (Aa 0, zI 4))] ++ [(q2, .inl (Aa 0, zI 6))] ++ [(q3, .inl (Aa 0, zI 6))])) H := hP
  have hD : va_D A ((h0, .inr (7, [.null, .null, .ref q1, .ref q2, .null, .null, .null, .null, .null, .int 0, .int 0, .int 0, .int 0, .int 0, .int 0])) :: ([] ++ [(q1, .inl (Aa 0, zI 4))] ++ [(q2, .inl (Aa 0, zI 6))] ++ [(q3, .inl (Aa 0, zI 6))])) := hD
  refine nw_put (o := 7) (k := 4) (v := .ref q3) hx hb hgs hown hin hK hP hD hS (by decide) rfl rfl rfl rfl (Nat.le_of_ble_eq_true rfl) dX7_init_24 (fun H locs hP hD hS => ?_)
  have hP : va_P (dC, dI) scl ((h0, .inr (7, [.null, .null, .ref q1, .ref q2, .ref q3, .null, .null, .null, .null, .int 0, .int 0, .int 0, .int 0, .int 0, .int 0])) :: ([] ++ [(q1, .inl (Aa 0, zI 4))] ++ [(q2, .inl (Aa 0, zI 6))] ++ [(q3, .inl (Aa 0, zI 6))])) H := hP
  have hD : va_D A ((h0, .inr (7, [.null, .null, .ref q1, .ref q2, .ref q3, .null, .null, .null, .null, .int 0, .int 0, .int 0, .int 0, .int 0, .int 0])) :: ([] ++ [(q1, .inl (Aa 0, zI 4))] ++ [(q2, .inl (Aa 0, zI 6))] ++ [(q3, .inl (Aa 0, zI 6))])) := hD
  refine lv_aload_n hx hb dX7_init_27 rfl (lv_at hl 0 rfl) ?_
  refine lv_bipush hx hb dX7_init_28 rfl ?_
  refine nw_int (N' := 6) hx hb (hgs (.arrayClass .int) (gws_1 41 (by decide +kernel) (by decide +kernel))) hK hP hD hS hA (by decide) (by decide +kernel) (Nat.le_of_ble_eq_true rfl) (Nat.le_of_ble_eq_true rfl) (Nat.le_of_ble_eq_true rfl) dX7_init_30 (fun q4 H hP hD hS => ?_)
  have hP : va_P (dC, dI) scl ((h0, .inr (7, [.null, .null, .ref q1, .ref q2, .ref q3, .null, .null, .null, .null, .int 0, .int 0, .int 0, .int 0, .int 0, .int 0])) :: ([] ++ [(q1, .inl (Aa 0, zI 4))] ++ [(q2, .inl (Aa 0, zI 6))] ++ [(q3, .inl (Aa 0, zI 6))] ++ [(q4, .inl (Aa 0, zI 6))])) H := hP
  have hD : va_D A ((h0, .inr (7, [.null, .null, .ref q1, .ref q2, .ref q3, .null, .null, .null, .null, .int 0, .int 0, .int 0, .int 0, .int 0, .int 0])) :: ([] ++ [(q1, .inl (Aa 0, zI 4))] ++ [(q2, .inl (Aa 0, zI 6))] ++ [(q3, .inl (Aa 0, zI 6))] ++ [(q4, .inl (Aa 0, zI 6))])) := hD
  refine nw_put (o := 7) (k := 5) (v := .ref q4) hx hb hgs hown hin hK hP hD hS (by decide) rfl rfl rfl rfl (Nat.le_of_ble_eq_true rfl) dX7_init_32 (fun H locs hP hD hS => ?_)
  have hP : va_P (dC, dI) scl ((h0, .inr (7, [.null, .null, .ref q1, .ref q2, .ref q3, .ref q4, .null, .null, .null, .int 0, .int 0, .int 0, .int 0, .int 0, .int 0])) :: ([] ++ [(q1, .inl (Aa 0, zI 4))] ++ [(q2, .inl (Aa 0, zI 6))] ++ [(q3, .inl (Aa 0, zI 6))] ++ [(q4, .inl (Aa 0, zI 6))])) H := hP
  have hD : va_D A ((h0, .inr (7, [.null, .null, .ref q1, .ref q2, .ref q3, .ref q4, .null, .null, .null, .int 0, .int 0, .int 0, .int 0, .int 0, .int 0])) :: ([] ++ [(q1, .inl (Aa 0, zI 4))] ++ [(q2, .inl (Aa 0, zI 6))] ++ [(q3, .inl (Aa 0, zI 6))] ++ [(q4, .inl (Aa 0, zI 6))])) := hD
  refine lv_aload_n hx hb dX7_init_35 rfl (lv_at hl 0 rfl) ?_
  refine lv_bipush hx hb dX7_init_36 rfl ?_
  refine nw_int (N' := 6) hx hb (hgs (.arrayClass .int) (gws_1 41 (by decide +kernel) (by decide +kernel))) hK hP hD hS hA (by decide) (by decide +kernel) (Nat.le_of_ble_eq_true rfl) (Nat.le_of_ble_eq_true rfl) (Nat.le_of_ble_eq_true rfl) dX7_init_38 (fun q5 H hP hD hS => ?_)
  have hP : va_P (dC, dI) scl ((h0, .inr (7, [.null, .null, .ref q1, .ref q2, .ref q3, .ref q4, .null, .null, .null, .int 0, .int 0, .int 0, .int 0, .int 0, .int 0])) :: ([] ++ [(q1, .inl (Aa 0, zI 4))] ++ [(q2, .inl (Aa 0, zI 6))] ++ [(q3, .inl (Aa 0, zI 6))] ++ [(q4, .inl (Aa 0, zI 6))] ++ [(q5, .inl (Aa 0, zI 6))])) H := hP
  have hD : va_D A ((h0, .inr (7, [.null, .null, .ref q1, .ref q2, .ref q3, .ref q4, .null, .null, .null, .int 0, .int 0, .int 0, .int 0, .int 0, .int 0])) :: ([] ++ [(q1, .inl (Aa 0, zI 4))] ++ [(q2, .inl (Aa 0, zI 6))] ++ [(q3, .inl (Aa 0, zI 6))] ++ [(q4, .inl (Aa 0, zI 6))] ++ [(q5, .inl (Aa 0, zI 6))])) := hD
  refine nw_put (o := 7) (k := 6) (v := .ref q5) hx hb hgs hown hin hK hP hD hS (by decide) rfl rfl rfl rfl (Nat.le_of_ble_eq_true rfl) dX7_init_40 (fun H locs hP hD hS => ?_)
  have hP : va_P (dC, dI) scl ((h0, .inr (7, [.null, .null, .ref q1, .ref q2, .ref q3, .ref q4, .ref q5, .null, .null, .int 0, .int 0, .int 0, .int 0, .int 0, .int 0])) :: ([] ++ [(q1, .inl (Aa 0, zI 4))] ++ [(q2, .inl (Aa 0, zI 6))] ++ [(q3, .inl (Aa 0, zI 6))] ++ [(q4, .inl (Aa 0, zI 6))] ++ [(q5, .inl (Aa 0, zI 6))])) H := hP
  have hD : va_D A ((h0, .inr (7, [.null, .null, .ref q1, .ref q2, .ref q3, .ref q4, .ref q5, .null, .null, .int 0, .int 0, .int 0, .int 0, .int 0, .int 0])) :: ([] ++ [(q1, .inl (Aa 0, zI 4))] ++ [(q2, .inl (Aa 0, zI 6))] ++ [(q3, .inl (Aa 0, zI 6))] ++ [(q4, .inl (Aa 0, zI 6))] ++ [(q5, .inl (Aa 0, zI 6))])) := hD
  refine lv_aload_n hx hb dX7_init_43 rfl (lv_at hl 0 rfl) ?_
  refine lv_bipush hx hb dX7_init_44 rfl ?_
  refine nw_int (N' := 6) hx hb (hgs (.arrayClass .int) (gws_1 41 (by decide +kernel) (by decide +kernel))) hK hP hD hS hA (by decide) (by decide +kernel) (Nat.le_of_ble_eq_true rfl) (Nat.le_of_ble_eq_true rfl) (Nat.le_of_ble_eq_true rfl) dX7_init_46 (fun q6 H hP hD hS => ?_)
  have hP : va_P (dC, dI) scl ((h0, .inr (7, [.null, .null, .ref q1, .ref q2, .ref q3, .ref q4, .ref q5, .null, .null, .int 0, .int 0, .int 0, .int 0, .int 0, .int 0])) :: ([] ++ [(q1, .inl (Aa 0, zI 4))] ++ [(q2, .inl (Aa 0, zI 6))] ++ [(q3, .inl (Aa 0, zI 6))] ++ [(q4, .inl (Aa 0, zI 6))] ++ [(q5, .inl (Aa 0, zI 6))] ++ [(q6, .inl (Aa 0, zI 6))])) H := hP
  have hD : va_D A ((h0, .inr (7, [.null, .null, .ref q1, .ref q2, .ref q3, .ref q4, .ref q5, .null, .null, .int 0, .int 0, .int 0, .int 0, .int 0, .int 0])) :: ([] ++ [(q1, .inl (Aa 0, zI 4))] ++ [(q2, .inl (Aa 0, zI 6))] ++ [(q3, .inl (Aa 0, zI 6))] ++ [(q4, .inl (Aa 0, zI 6))] ++ [(q5, .inl (Aa 0, zI 6))] ++ [(q6, .inl (Aa 0, zI 6))])) := hD
  refine nw_put (o := 7) (k := 7) (v := .ref q6) hx hb hgs hown hin hK hP hD hS (by decide) rfl rfl rfl rfl (Nat.le_of_ble_eq_true rfl) dX7_init_48 (fun H locs hP hD hS => ?_)
  have hP : va_P (dC, dI) scl ((h0, .inr (7, [.null, .null, .ref q1, .ref q2, .ref q3, .ref q4, .ref q5, .ref q6, .null, .int 0, .int 0, .int 0, .int 0, .int 0, .int 0])) :: ([] ++ [(q1, .inl (Aa 0, zI 4))] ++ [(q2, .inl (Aa 0, zI 6))] ++ [(q3, .inl (Aa 0, zI 6))] ++ [(q4, .inl (Aa 0, zI 6))] ++ [(q5, .inl (Aa 0, zI 6))] ++ [(q6, .inl (Aa 0, zI 6))])) H := hP
  have hD : va_D A ((h0, .inr (7, [.null, .null, .ref q1, .ref q2, .ref q3, .ref q4, .ref q5, .ref q6, .null, .int 0, .int 0, .int 0, .int 0, .int 0, .int 0])) :: ([] ++ [(q1, .inl (Aa 0, zI 4))] ++ [(q2, .inl (Aa 0, zI 6))] ++ [(q3, .inl (Aa 0, zI 6))] ++ [(q4, .inl (Aa 0, zI 6))] ++ [(q5, .inl (Aa 0, zI 6))] ++ [(q6, .inl (Aa 0, zI 6))])) := hD
  refine lv_aload_n hx hb dX7_init_51 rfl (lv_at hl 0 rfl) ?_
  refine lv_bipush hx hb dX7_init_52 rfl ?_
  refine nw_int (N' := 6) hx hb (hgs (.arrayClass .int) (gws_1 41 (by decide +kernel) (by decide +kernel))) hK hP hD hS hA (by decide) (by decide +kernel) (Nat.le_of_ble_eq_true rfl) (Nat.le_of_ble_eq_true rfl) (Nat.le_of_ble_eq_true rfl) dX7_init_54 (fun q7 H hP hD hS => ?_)
  have hP : va_P (dC, dI) scl ((h0, .inr (7, [.null, .null, .ref q1, .ref q2, .ref q3, .ref q4, .ref q5, .ref q6, .null, .int 0, .int 0, .int 0, .int 0, .int 0, .int 0])) :: ([] ++ [(q1, .inl (Aa 0, zI 4))] ++ [(q2, .inl (Aa 0, zI 6))] ++ [(q3, .inl (Aa 0, zI 6))] ++ [(q4, .inl (Aa 0, zI 6))] ++ [(q5, .inl (Aa 0, zI 6))] ++ [(q6, .inl (Aa 0, zI 6))] ++ [(q7, .inl (Aa 0, zI 6))])) H := hP
  have hD : va_D A ((h0, .inr (7, [.null, .null, .ref q1, .ref q2, .ref q3, .ref q4, .ref q5, .ref q6, .null, .int 0, .int 0, .int 0, .int 0, .int 0, .int 0])) :: ([] ++ [(q1, .inl (Aa 0, zI 4))] ++ [(q2, .inl (Aa 0, zI 6))] ++ [(q3, .inl (Aa 0, zI 6))] ++ [(q4, .inl (Aa 0, zI 6))] ++ [(q5, .inl (Aa 0, zI 6))] ++ [(q6, .inl (Aa 0, zI 6))] ++ [(q7, .inl (Aa 0, zI 6))])) := hD
  refine nw_put (o := 7) (k := 8) (v := .ref q7) hx hb hgs hown hin hK hP hD hS (by decide) rfl rfl rfl rfl (Nat.le_of_ble_eq_true rfl) dX7_init_56 (fun H locs hP hD hS => ?_)
  have hP : va_P (dC, dI) scl ((h0, .inr (7, [.null, .null, .ref q1, .ref q2, .ref q3, .ref q4, .ref q5, .ref q6, .ref q7, .int 0, .int 0, .int 0, .int 0, .int 0, .int 0])) :: ([] ++ [(q1, .inl (Aa 0, zI 4))] ++ [(q2, .inl (Aa 0, zI 6))] ++ [(q3, .inl (Aa 0, zI 6))] ++ [(q4, .inl (Aa 0, zI 6))] ++ [(q5, .inl (Aa 0, zI 6))] ++ [(q6, .inl (Aa 0, zI 6))] ++ [(q7, .inl (Aa 0, zI 6))])) H := hP
  have hD : va_D A ((h0, .inr (7, [.null, .null, .ref q1, .ref q2, .ref q3, .ref q4, .ref q5, .ref q6, .ref q7, .int 0, .int 0, .int 0, .int 0, .int 0, .int 0])) :: ([] ++ [(q1, .inl (Aa 0, zI 4))] ++ [(q2, .inl (Aa 0, zI 6))] ++ [(q3, .inl (Aa 0, zI 6))] ++ [(q4, .inl (Aa 0, zI 6))] ++ [(q5, .inl (Aa 0, zI 6))] ++ [(q6, .inl (Aa 0, zI 6))] ++ [(q7, .inl (Aa 0, zI 6))])) := hD
  refine lv_aload_n hx hb dX7_init_59 rfl (lv_at hl 0 rfl) ?_
  refine lv_aload_n hx hb dX7_init_60 rfl (lv_at hl 1 rfl) ?_
  refine nw_put (o := 7) (k := 0) (v := .ref h1) hx hb hgs hown hin hK hP hD hS (by decide) rfl rfl rfl rfl (Nat.le_of_ble_eq_true rfl) dX7_init_61 (fun H locs hP hD hS => ?_)
  have hP : va_P (dC, dI) scl ((h0, .inr (7, [.ref h1, .null, .ref q1, .ref q2, .ref q3, .ref q4, .ref q5, .ref q6, .ref q7, .int 0, .int 0, .int 0, .int 0, .int 0, .int 0])) :: ([] ++ [(q1, .inl (Aa 0, zI 4))] ++ [(q2, .inl (Aa 0, zI 6))] ++ [(q3, .inl (Aa 0, zI 6))] ++ [(q4, .inl (Aa 0, zI 6))] ++ [(q5, .inl (Aa 0, zI 6))] ++ [(q6, .inl (Aa 0, zI 6))] ++ [(q7, .inl (Aa 0, zI 6))])) H := hP
  have hD : va_D A ((h0, .inr (7, [.ref h1, .null, .ref q1, .ref q2, .ref q3, .ref q4, .ref q5, .ref q6, .ref q7, .int 0, .int 0, .int 0, .int 0, .int 0, .int 0])) :: ([] ++ [(q1, .inl (Aa 0, zI 4))] ++ [(q2, .inl (Aa 0, zI 6))] ++ [(q3, .inl (Aa 0, zI 6))] ++ [(q4, .inl (Aa 0, zI 6))] ++ [(q5, .inl (Aa 0, zI 6))] ++ [(q6, .inl (Aa 0, zI 6))] ++ [(q7, .inl (Aa 0, zI 6))])) := hD
  refine lv_aload_n hx hb dX7_init_64 rfl (lv_at hl 0 rfl) ?_
  refine lv_aload_n hx hb dX7_init_65 rfl (lv_at hl 2 rfl) ?_
  refine nw_put (o := 7) (k := 1) (v := .ref h2) hx hb hgs hown hin hK hP hD hS (by decide) rfl rfl rfl rfl (Nat.le_of_ble_eq_true rfl) dX7_init_66 (fun H locs hP hD hS => ?_)
  have hP : va_P (dC, dI) scl ((h0, .inr (7, [.ref h1, .ref h2, .ref q1, .ref q2, .ref q3, .ref q4, .ref q5, .ref q6, .ref q7, .int 0, .int 0, .int 0, .int 0, .int 0, .int 0])) :: ([] ++ [(q1, .inl (Aa 0, zI 4))] ++ [(q2, .inl (Aa 0, zI 6))] ++ [(q3, .inl (Aa 0, zI 6))] ++ [(q4, .inl (Aa 0, zI 6))] ++ [(q5, .inl (Aa 0, zI 6))] ++ [(q6, .inl (Aa 0, zI 6))] ++ [(q7, .inl (Aa 0, zI 6))])) H := hP
  have hD : va_D A ((h0, .inr (7, [.ref h1, .ref h2, .ref q1, .ref q2, .ref q3, .ref q4, .ref q5, .ref q6, .ref q7, .int 0, .int 0, .int 0, .int 0, .int 0, .int 0])) :: ([] ++ [(q1, .inl (Aa 0, zI 4))] ++ [(q2, .inl (Aa 0, zI 6))] ++ [(q3, .inl (Aa 0, zI 6))] ++ [(q4, .inl (Aa 0, zI 6))] ++ [(q5, .inl (Aa 0, zI 6))] ++ [(q6, .inl (Aa 0, zI 6))] ++ [(q7, .inl (Aa 0, zI 6))])) := hD
  refine W.vret hx hb hr (fun t ht hW => ⟨⟨(fun c _ => if c = 13 then h0 else if c = 1 then h1 else if c = 4 then h2 else if c = 14 then q1 else if c = 15 then q2 else if c = 16 then q3 else if c = 17 then q4 else if c = 18 then q5 else if c = 19 then q6 else q7), rfl, ⟨rfl, rfl, rfl⟩, ?_, ?_⟩, hS.F ht⟩) hS.2.2 dX7_init_69
  · rw [ht]; exact hP
  · exact hD
theorem dX0_init_0 : decode cX0_init 0 = .ok (.aload_n 0, 1) := by decide +kernel
theorem dX0_init_1 : decode cX0_init 1 = .ok (.invokespecial 3, 3) := by decide +kernel
theorem dX0_init_4 : decode cX0_init 4 = .ok (.aload_n 0, 1) := by decide +kernel
theorem dX0_init_5 : decode cX0_init 5 = .ok (.iconst 4, 1) := by decide +kernel
theorem dX0_init_6 : decode cX0_init 6 = .ok (.bipush 64, 2) := by decide +kernel
theorem dX0_init_8 : decode cX0_init 8 = .ok (.multianewarray 9 2, 4) := by decide +kernel
theorem dX0_init_12 : decode cX0_init 12 = .ok (.putfield 11, 3) := by decide +kernel
theorem dX0_init_15 : decode cX0_init 15 = .ok (.aload_n 0, 1) := by decide +kernel
theorem dX0_init_16 : decode cX0_init 16 = .ok (.iconst 4, 1) := by decide +kernel
theorem dX0_init_17 : decode cX0_init 17 = .ok (.newarray .int, 2) := by decide +kernel
theorem dX0_init_19 : decode cX0_init 19 = .ok (.putfield 16, 3) := by decide +kernel
theorem dX0_init_22 : decode cX0_init 22 = .ok (.aload_n 0, 1) := by decide +kernel
theorem dX0_init_23 : decode cX0_init 23 = .ok (.bipush 6, 2) := by decide +kernel
theorem dX0_init_25 : decode cX0_init 25 = .ok (.newarray .int, 2) := by decide +kernel
theorem dX0_init_27 : decode cX0_init 27 = .ok (.putfield 20, 3) := by decide +kernel
theorem dX0_init_30 : decode cX0_init 30 = .ok (.aload_n 0, 1) := by decide +kernel
theorem dX0_init_31 : decode cX0_init 31 = .ok (.aload_n 1, 1) := by decide +kernel
theorem dX0_init_32 : decode cX0_init 32 = .ok (.putfield 23, 3) := by decide +kernel
theorem dX0_init_35 : decode cX0_init 35 = .ok (.aload_n 0, 1) := by decide +kernel
theorem dX0_init_36 : decode cX0_init 36 = .ok (.aload_n 2, 1) := by decide +kernel
theorem dX0_init_37 : decode cX0_init 37 = .ok (.putfield 27, 3) := by decide +kernel
theorem dX0_init_40 : decode cX0_init 40 = .ok (.return_, 1) := by decide +kernel
set_option maxHeartbeats 4000000 in
set_option maxRecDepth 100000 in
theorem c_X0 (l : Launch) (dC : Nat → ClassId) (dI : Nat → Nat → Nat) (Aa : Nat → ClassId) (h0 h1 h2 sz : Nat) : CT l dC dI Aa yX0_init cX0_init 3 0 [.null, .null, .null, .null, .null, .int 0, .int 0] [.ref h1, .ref h2] (fun u => u 21 0 = h0 ∧ u 1 0 = h1 ∧ u 13 0 = h2) ([(21, 0), (22, 0), (23, 0), (23, 1), (23, 2), (23, 3), (24, 0), (25, 0)]) 7 270 h0 sz := by
  refine Met.ofW (cc := cX0_init) (maxL := 3) (ret := none) (by decide) rfl ?_
  intro p e s m args below meth c s₁ B hml hv
  obtain ⟨rfl, hsz, hP, hK, hov, hD0⟩ := hv
  have hx := B.exec
  have hb := B.bytes
  have hr := B.returns
  have hts := atoms_spec (ws := Cond.code yX0_init cX0_init 3 none :: gws) B.pre
  have hgs : ∀ w ∈ gws, w.before (Value.ref h0 :: [.ref h1, .ref h2]).toArray s = true := fun w hw => hts w (List.mem_cons_of_mem _ hw)
  have hown : s.vm.findClass (RO 0) = some m.cls := findClass_of_methodNamed B.named
  have hin : meth.name = "<init>" := (name_of_methodNamed B.named B.method).1
  subst hsz
  have hD := hD0.self (sz := s.heap.size)
  generalize hAe : va_A [(h0, .inr (0, [.null, .null, .null, .null, .null, .int 0, .int 0]))] s.heap.size = A at hD ⊢
  have hA : ∀ q : Nat, s.heap.size ≤ q → A q := fun q h => by rw [← hAe]; exact Or.inr h
  have hS : va_S A s.heap s.heap [] := va_S.rf
  have hl := lv_entry ([.ref h0, .ref h1, .ref h2]) (n := 3) (Nat.le_of_ble_eq_true rfl)
  rw [lg_entry_eq]
  generalize (lg_sl ([.ref h0, .ref h1, .ref h2]) ++ List.replicate (3 - (lg_sl ([.ref h0, .ref h1, .ref h2])).length) Slot.unset).toArray = ls at hl ⊢
  have hl : lv_has ls 3 [(0, .ref h0), (1, .ref h1), (2, .ref h2)] := hl
  refine lv_aload_n hx hb dX0_init_0 rfl (lv_at hl 0 rfl) ?_
  refine W.objInit hx hb hown (hgs (.methodLink (RO 0) 3 objectInit) (gws_1 156 (by decide +kernel) (by decide +kernel))) (hgs (.instanceMethod objectInit) (gws_1 24 (by decide +kernel) (by decide +kernel))) (hgs (.code objectInit ⟨#[0xb1]⟩ 1 none) (gws_1 25 (by decide +kernel) (by decide +kernel))) rfl (by rw [hml]; exact hl.1) rfl dX0_init_1 (Nat.le_of_ble_eq_true rfl) (Nat.le_of_ble_eq_true rfl) ?_
  refine W.eq (g2 := F0 m 4 ls []) rfl ?_
  refine lv_aload_n hx hb dX0_init_4 rfl (lv_at hl 0 rfl) ?_
  refine lv_iconst hx hb dX0_init_5 rfl ?_
  refine lv_bipush hx hb dX0_init_6 rfl ?_
  refine nw_mna (N' := 4) (K' := 64) hx hb hown (hgs (.classLink (RO 0) 9 "[[I") (gws_1 157 (by decide +kernel) (by decide +kernel))) hov hK hP hD hS hA (by decide) (by decide) (by decide +kernel) (by decide +kernel) (Nat.le_of_ble_eq_true rfl) (Nat.le_of_ble_eq_true rfl) (Nat.le_of_ble_eq_true rfl) (Nat.le_of_ble_eq_true rfl) dX0_init_8 (fun q1 r1 H hP hD hS => ?_)
  have hP : va_P (dC, dI) scl ((h0, .inr (0, [.null, .null, .null, .null, .null, .int 0, .int 0])) :: ([] ++ ((q1, .inl (Aa 2, zQ 4 r1)) :: (List.range 4).map (fun i => (r1 i, .inl (Aa 0, zI 64)))))) H := hP
  have hD : va_D A ((h0, .inr (0, [.null, .null, .null, .null, .null, .int 0, .int 0])) :: ([] ++ ((q1, .inl (Aa 2, zQ 4 r1)) :: (List.range 4).map (fun i => (r1 i, .inl (Aa 0, zI 64)))))) := hD
  refine nw_put (o := 0) (k := 2) (v := .ref q1) hx hb hgs hown hin hK hP hD hS (by decide) rfl rfl rfl rfl (Nat.le_of_ble_eq_true rfl) dX0_init_12 (fun H locs hP hD hS => ?_)
  have hP : va_P (dC, dI) scl ((h0, .inr (0, [.null, .null, .ref q1, .null, .null, .int 0, .int 0])) :: ([] ++ ((q1, .inl (Aa 2, zQ 4 r1)) :: (List.range 4).map (fun i => (r1 i, .inl (Aa 0, zI 64)))))) H := hP
  have hD : va_D A ((h0, .inr (0, [.null, .null, .ref q1, .null, .null, .int 0, .int 0])) :: ([] ++ ((q1, .inl (Aa 2, zQ 4 r1)) :: (List.range 4).map (fun i => (r1 i, .inl (Aa 0, zI 64)))))) := hD
  refine lv_aload_n hx hb dX0_init_15 rfl (lv_at hl 0 rfl) ?_
  refine lv_iconst hx hb dX0_init_16 rfl ?_
  refine nw_int (N' := 4) hx hb (hgs (.arrayClass .int) (gws_1 41 (by decide +kernel) (by decide +kernel))) hK hP hD hS hA (by decide) (by decide +kernel) (Nat.le_of_ble_eq_true rfl) (Nat.le_of_ble_eq_true rfl) (Nat.le_of_ble_eq_true rfl) dX0_init_17 (fun q2 H hP hD hS => ?_)
  have hP : va_P (dC, dI) scl ((h0, .inr (0, [.null, .null, .ref q1, .null, .null, .int 0, .int 0])) :: ([] ++ ((q1, .inl (Aa 2, zQ 4 r1)) :: (List.range 4).map (fun i => (r1 i, .inl (Aa 0, zI 64)))) ++ [(q2, .inl (Aa 0, zI 4))])) H := hP
  have hD : va_D A ((h0, .inr (0, [.null, .null, .ref q1, .null, .null, .int 0, .int 0])) :: ([] ++ ((q1, .inl (Aa 2, zQ 4 r1)) :: (List.range 4).map (fun i => (r1 i, .inl (Aa 0, zI 64)))) ++ [(q2, .inl (Aa 0, zI 4))])) := hD
  refine nw_put (o := 0) (k := 3) (v := .ref q2) hx hb hgs hown hin hK hP hD hS (by decide) rfl rfl rfl rfl (Nat.le_of_ble_eq_true rfl) dX0_init_19 (fun H locs hP hD hS => ?_)
  have hP : va_P (dC, dI) scl ((h0, .inr (0, [.null, .null, .ref q1, .ref q2, .null, .int 0, .int 0])) :: ([] ++ ((q1, .inl (Aa 2, zQ 4 r1)) :: (List.range 4).map (fun i => (r1 i, .inl (Aa 0, zI 64)))) ++ [(q2, .inl (Aa 0, zI 4))])) H := hP
  have hD : va_D A ((h0, .inr (0, [.null, .null, .ref q1, .ref q2, .null, .int 0, .int 0])) :: ([] ++ ((q1, .inl (Aa 2, zQ 4 r1)) :: (List.range 4).map (fun i => (r1 i, .inl (Aa 0, zI 64)))) ++ [(q2, .inl (Aa 0, zI 4))])) := hD
  refine lv_aload_n hx hb dX0_init_22 rfl (lv_at hl 0 rfl) ?_
  refine lv_bipush hx hb dX0_init_23 rfl ?_
  refine nw_int (N' := 6) hx hb (hgs (.arrayClass .int) (gws_1 41 (by decide +kernel) (by decide +kernel))) hK hP hD hS hA (by decide) (by decide +kernel) (Nat.le_of_ble_eq_true rfl) (Nat.le_of_ble_eq_true rfl) (Nat.le_of_ble_eq_true rfl) dX0_init_25 (fun q3 H hP hD hS => ?_)
  have hP : va_P (dC, dI) scl ((h0, .inr (0, [.null, .null, .ref q1, .ref q2, .null, .int 0, .int 0])) :: ([] ++ ((q1, .inl (Aa 2, zQ 4 r1)) :: (List.range 4).map (fun i => (r1 i, .inl (Aa 0, zI 64)))) ++ [(q2, .inl (Aa 0, zI 4))] ++ [(q3, .inl (Aa 0, zI 6))])) H := hP
  have hD : va_D A ((h0, .inr (0, [.null, .null, .ref q1, .ref q2, .null, .int 0, .int 0])) :: ([] ++ ((q1, .inl (Aa 2, zQ 4 r1)) :: (List.range 4).map (fun i => (r1 i, .inl (Aa 0, zI 64)))) ++ [(q2, .inl (Aa 0, zI 4))] ++ [(q3, .inl (Aa 0, zI 6))])) := hD
  refine nw_put (o := 0) (k := 4) (v := .ref q3) hx hb hgs hown hin hK hP hD hS (by decide) rfl rfl rfl rfl (Nat.le_of_ble_eq_true rfl) dX0_init_27 (fun H locs hP hD hS => ?_)
  have hP : va_P (dC, dI) scl ((h0, .inr (0, [.null, .null, .ref q1, .ref q2, .ref q3, .int 0, .int 0])) :: ([] ++ ((q1, .inl (Aa 2, zQ 4 r1)) :: (List.range 4).map (fun i => (r1 i, .inl (Aa 0, zI 64)))) ++ [(q2, .inl (Aa 0, zI 4))] ++ [(q3, .inl (Aa 0, zI 6))])) H := hP
  have hD : va_D A ((h0, .inr (0, [.null, .null, .ref q1, .ref q2, .ref q3, .int 0, .int 0])) :: ([] ++ ((q1, .inl (Aa 2, zQ 4 r1)) :: (List.range 4).map (fun i => (r1 i, .inl (Aa 0, zI 64)))) ++ [(q2, .inl (Aa 0, zI 4))] ++ [(q3, .inl (Aa 0, zI 6))])) := hD
  refine lv_aload_n hx hb dX0_init_30 rfl (lv_at hl 0 rfl) ?_
  refine lv_aload_n hx hb dX0_init_31 rfl (lv_at hl 1 rfl) ?_
  refine nw_put (o := 0) (k := 0) (v := .ref h1) hx hb hgs hown hin hK hP hD hS (by decide) rfl rfl rfl rfl (Nat.le_of_ble_eq_true rfl) dX0_init_32 (fun H locs hP hD hS => ?_)
  have hP : va_P (dC, dI) scl ((h0, .inr (0, [.ref h1, .null, .ref q1, .ref q2, .ref q3, .int 0, .int 0])) :: ([] ++ ((q1, .inl (Aa 2, zQ 4 r1)) :: (List.range 4).map (fun i => (r1 i, .inl (Aa 0, zI 64)))) ++ [(q2, .inl (Aa 0, zI 4))] ++ [(q3, .inl (Aa 0, zI 6))])) H := hP
  have hD : va_D A ((h0, .inr (0, [.ref h1, .null, .ref q1, .ref q2, .ref q3, .int 0, .int 0])) :: ([] ++ ((q1, .inl (Aa 2, zQ 4 r1)) :: (List.range 4).map (fun i => (r1 i, .inl (Aa 0, zI 64)))) ++ [(q2, .inl (Aa 0, zI 4))] ++ [(q3, .inl (Aa 0, zI 6))])) := hD
  refine lv_aload_n hx hb dX0_init_35 rfl (lv_at hl 0 rfl) ?_
  refine lv_aload_n hx hb dX0_init_36 rfl (lv_at hl 2 rfl) ?_
  refine nw_put (o := 0) (k := 1) (v := .ref h2) hx hb hgs hown hin hK hP hD hS (by decide) rfl rfl rfl rfl (Nat.le_of_ble_eq_true rfl) dX0_init_37 (fun H locs hP hD hS => ?_)
  have hP : va_P (dC, dI) scl ((h0, .inr (0, [.ref h1, .ref h2, .ref q1, .ref q2, .ref q3, .int 0, .int 0])) :: ([] ++ ((q1, .inl (Aa 2, zQ 4 r1)) :: (List.range 4).map (fun i => (r1 i, .inl (Aa 0, zI 64)))) ++ [(q2, .inl (Aa 0, zI 4))] ++ [(q3, .inl (Aa 0, zI 6))])) H := hP
  have hD : va_D A ((h0, .inr (0, [.ref h1, .ref h2, .ref q1, .ref q2, .ref q3, .int 0, .int 0])) :: ([] ++ ((q1, .inl (Aa 2, zQ 4 r1)) :: (List.range 4).map (fun i => (r1 i, .inl (Aa 0, zI 64)))) ++ [(q2, .inl (Aa 0, zI 4))] ++ [(q3, .inl (Aa 0, zI 6))])) := hD
  refine W.vret hx hb hr (fun t ht hW => ⟨⟨(fun c j => if c = 21 then h0 else if c = 1 then h1 else if c = 13 then h2 else if c = 22 then q1 else if c = 23 then r1 j else if c = 24 then q2 else q3), rfl, ⟨rfl, rfl, rfl⟩, ?_, ?_⟩, hS.F ht⟩) hS.2.2 dX0_init_40
  · rw [ht]; exact hP
  · exact hD
theorem dX6_init_0 : decode cX6_init 0 = .ok (.aload_n 0, 1) := by decide +kernel
theorem dX6_init_1 : decode cX6_init 1 = .ok (.invokespecial 3, 3) := by decide +kernel
theorem dX6_init_4 : decode cX6_init 4 = .ok (.aload_n 0, 1) := by decide +kernel
theorem dX6_init_5 : decode cX6_init 5 = .ok (.bipush 40, 2) := by decide +kernel
theorem dX6_init_7 : decode cX6_init 7 = .ok (.newarray .int, 2) := by decide +kernel
theorem dX6_init_9 : decode cX6_init 9 = .ok (.putfield 9, 3) := by decide +kernel
theorem dX6_init_12 : decode cX6_init 12 = .ok (.aload_n 0, 1) := by decide +kernel
theorem dX6_init_13 : decode cX6_init 13 = .ok (.iconst (-1), 1) := by decide +kernel
theorem dX6_init_14 : decode cX6_init 14 = .ok (.putfield 15, 3) := by decide +kernel
theorem dX6_init_17 : decode cX6_init 17 = .ok (.return_, 1) := by decide +kernel
set_option maxHeartbeats 4000000 in
set_option maxRecDepth 100000 in
theorem c_X6 (l : Launch) (dC : Nat → ClassId) (dI : Nat → Nat → Nat) (Aa : Nat → ClassId) (h0 j0 sz : Nat) : CT l dC dI Aa yX6_init cX6_init 1 6 [.null, .int 0, .int 0] [] (fun u => u 30 j0 = h0) ([(30, j0), (31, j0)]) 1 40 h0 sz := by
  refine Met.ofW (cc := cX6_init) (maxL := 1) (ret := none) (by decide) rfl ?_
  intro p e s m args below meth c s₁ B hml hv
  obtain ⟨rfl, hsz, hP, hK, hov, hD0⟩ := hv
  have hx := B.exec
  have hb := B.bytes
  have hr := B.returns
  have hts := atoms_spec (ws := Cond.code yX6_init cX6_init 1 none :: gws) B.pre
  have hgs : ∀ w ∈ gws, w.before (Value.ref h0 :: []).toArray s = true := fun w hw => hts w (List.mem_cons_of_mem _ hw)
  have hown : s.vm.findClass (RO 6) = some m.cls := findClass_of_methodNamed B.named
  have hin : meth.name = "<init>" := (name_of_methodNamed B.named B.method).1
  subst hsz
  have hD := hD0.self (sz := s.heap.size)
  generalize hAe : va_A [(h0, .inr (6, [.null, .int 0, .int 0]))] s.heap.size = A at hD ⊢
  have hA : ∀ q : Nat, s.heap.size ≤ q → A q := fun q h => by rw [← hAe]; exact Or.inr h
  have hS : va_S A s.heap s.heap [] := va_S.rf
  have hl := lv_entry ([.ref h0]) (n := 1) (Nat.le_of_ble_eq_true rfl)
  rw [lg_entry_eq]
  generalize (lg_sl ([.ref h0]) ++ List.replicate (1 - (lg_sl ([.ref h0])).length) Slot.unset).toArray = ls at hl ⊢
  have hl : lv_has ls 1 [(0, .ref h0)] := hl
  refine lv_aload_n hx hb dX6_init_0 rfl (lv_at hl 0 rfl) ?_
  refine W.objInit hx hb hown (hgs (.methodLink (RO 6) 3 objectInit) (gws_1 203 (by decide +kernel) (by decide +kernel))) (hgs (.instanceMethod objectInit) (gws_1 24 (by decide +kernel) (by decide +kernel))) (hgs (.code objectInit ⟨#[0xb1]⟩ 1 none) (gws_1 25 (by decide +kernel) (by decide +kernel))) rfl (by rw [hml]; exact hl.1) rfl dX6_init_1 (Nat.le_of_ble_eq_true rfl) (Nat.le_of_ble_eq_true rfl) ?_
  refine W.eq (g2 := F0 m 4 ls []) rfl ?_
  refine lv_aload_n hx hb dX6_init_4 rfl (lv_at hl 0 rfl) ?_
  refine lv_bipush hx hb dX6_init_5 rfl ?_
  refine nw_int (N' := 40) hx hb (hgs (.arrayClass .int) (gws_1 41 (by decide +kernel) (by decide +kernel))) hK hP hD hS hA (by decide) (by decide +kernel) (Nat.le_of_ble_eq_true rfl) (Nat.le_of_ble_eq_true rfl) (Nat.le_of_ble_eq_true rfl) dX6_init_7 (fun q1 H hP hD hS => ?_)
  have hP : va_P (dC, dI) scl ((h0, .inr (6, [.null, .int 0, .int 0])) :: ([] ++ [(q1, .inl (Aa 0, zI 40))])) H := hP
  have hD : va_D A ((h0, .inr (6, [.null, .int 0, .int 0])) :: ([] ++ [(q1, .inl (Aa 0, zI 40))])) := hD
  refine nw_put (o := 6) (k := 0) (v := .ref q1) hx hb hgs hown hin hK hP hD hS (by decide) rfl rfl rfl rfl (Nat.le_of_ble_eq_true rfl) dX6_init_9 (fun H locs hP hD hS => ?_)
  have hP : va_P (dC, dI) scl ((h0, .inr (6, [.ref q1, .int 0, .int 0])) :: ([] ++ [(q1, .inl (Aa 0, zI 40))])) H := hP
  have hD : va_D A ((h0, .inr (6, [.ref q1, .int 0, .int 0])) :: ([] ++ [(q1, .inl (Aa 0, zI 40))])) := hD
  refine lv_aload_n hx hb dX6_init_12 rfl (lv_at hl 0 rfl) ?_
  refine lv_iconst hx hb dX6_init_13 rfl ?_
  refine nw_put (o := 6) (k := 1) (v := .int (-1)) hx hb hgs hown hin hK hP hD hS (by decide) rfl rfl rfl rfl (Nat.le_of_ble_eq_true rfl) dX6_init_14 (fun H locs hP hD hS => ?_)
  have hP : va_P (dC, dI) scl ((h0, .inr (6, [.ref q1, .int (-1), .int 0])) :: ([] ++ [(q1, .inl (Aa 0, zI 40))])) H := hP
  have hD : va_D A ((h0, .inr (6, [.ref q1, .int (-1), .int 0])) :: ([] ++ [(q1, .inl (Aa 0, zI 40))])) := hD
  refine W.vret hx hb hr (fun t ht hW => ⟨⟨(fun c _ => if c = 30 then h0 else q1), rfl, rfl, ?_, ?_⟩, hS.F ht⟩) hS.2.2 dX6_init_17
  · rw [ht]; exact hP
  · exact hD
