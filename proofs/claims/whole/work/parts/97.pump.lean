/-! CONSTRUCTORS 7: OtherSidesPump -/
theorem dX8_init_0 : decode cX8_init 0 = .ok (.aload_n 0, 1) := by decide +kernel
theorem dX8_init_1 : decode cX8_init 1 = .ok (.invokespecial 1, 3) := by decide +kernel
theorem dX8_init_4 : decode cX8_init 4 = .ok (.aload_n 0, 1) := by decide +kernel
theorem dX8_init_5 : decode cX8_init 5 = .ok (.new 7, 3) := by decide +kernel
theorem dX8_init_8 : decode cX8_init 8 = .ok (.dup, 1) := by decide +kernel
theorem dX8_init_9 : decode cX8_init 9 = .ok (.invokespecial 9, 3) := by decide +kernel
theorem dX8_init_12 : decode cX8_init 12 = .ok (.putfield 10, 3) := by decide +kernel
theorem dX8_init_15 : decode cX8_init 15 = .ok (.aload_n 0, 1) := by decide +kernel
theorem dX8_init_16 : decode cX8_init 16 = .ok (.new 16, 3) := by decide +kernel
theorem dX8_init_19 : decode cX8_init 19 = .ok (.dup, 1) := by decide +kernel
theorem dX8_init_20 : decode cX8_init 20 = .ok (.invokespecial 18, 3) := by decide +kernel
theorem dX8_init_23 : decode cX8_init 23 = .ok (.putfield 19, 3) := by decide +kernel
theorem dX8_init_26 : decode cX8_init 26 = .ok (.aload_n 0, 1) := by decide +kernel
theorem dX8_init_27 : decode cX8_init 27 = .ok (.new 23, 3) := by decide +kernel
theorem dX8_init_30 : decode cX8_init 30 = .ok (.dup, 1) := by decide +kernel
theorem dX8_init_31 : decode cX8_init 31 = .ok (.aload_n 0, 1) := by decide +kernel
theorem dX8_init_32 : decode cX8_init 32 = .ok (.getfield 19, 3) := by decide +kernel
theorem dX8_init_35 : decode cX8_init 35 = .ok (.invokespecial 25, 3) := by decide +kernel
theorem dX8_init_38 : decode cX8_init 38 = .ok (.putfield 28, 3) := by decide +kernel
theorem dX8_init_41 : decode cX8_init 41 = .ok (.aload_n 0, 1) := by decide +kernel
theorem dX8_init_42 : decode cX8_init 42 = .ok (.new 32, 3) := by decide +kernel
theorem dX8_init_45 : decode cX8_init 45 = .ok (.dup, 1) := by decide +kernel
theorem dX8_init_46 : decode cX8_init 46 = .ok (.aload_n 0, 1) := by decide +kernel
theorem dX8_init_47 : decode cX8_init 47 = .ok (.getfield 10, 3) := by decide +kernel
theorem dX8_init_50 : decode cX8_init 50 = .ok (.aload_n 0, 1) := by decide +kernel
theorem dX8_init_51 : decode cX8_init 51 = .ok (.getfield 19, 3) := by decide +kernel
theorem dX8_init_54 : decode cX8_init 54 = .ok (.invokespecial 34, 3) := by decide +kernel
theorem dX8_init_57 : decode cX8_init 57 = .ok (.putfield 37, 3) := by decide +kernel
theorem dX8_init_60 : decode cX8_init 60 = .ok (.aload_n 0, 1) := by decide +kernel
theorem dX8_init_61 : decode cX8_init 61 = .ok (.new 41, 3) := by decide +kernel
theorem dX8_init_64 : decode cX8_init 64 = .ok (.dup, 1) := by decide +kernel
theorem dX8_init_65 : decode cX8_init 65 = .ok (.aload_n 0, 1) := by decide +kernel
theorem dX8_init_66 : decode cX8_init 66 = .ok (.getfield 10, 3) := by decide +kernel
theorem dX8_init_69 : decode cX8_init 69 = .ok (.aload_n 0, 1) := by decide +kernel
theorem dX8_init_70 : decode cX8_init 70 = .ok (.getfield 37, 3) := by decide +kernel
theorem dX8_init_73 : decode cX8_init 73 = .ok (.invokespecial 43, 3) := by decide +kernel
theorem dX8_init_76 : decode cX8_init 76 = .ok (.putfield 46, 3) := by decide +kernel
theorem dX8_init_79 : decode cX8_init 79 = .ok (.aload_n 0, 1) := by decide +kernel
theorem dX8_init_80 : decode cX8_init 80 = .ok (.new 50, 3) := by decide +kernel
theorem dX8_init_83 : decode cX8_init 83 = .ok (.dup, 1) := by decide +kernel
theorem dX8_init_84 : decode cX8_init 84 = .ok (.invokespecial 52, 3) := by decide +kernel
theorem dX8_init_87 : decode cX8_init 87 = .ok (.putfield 53, 3) := by decide +kernel
theorem dX8_init_90 : decode cX8_init 90 = .ok (.aload_n 0, 1) := by decide +kernel
theorem dX8_init_91 : decode cX8_init 91 = .ok (.iconst 4, 1) := by decide +kernel
theorem dX8_init_92 : decode cX8_init 92 = .ok (.anewarray 57, 3) := by decide +kernel
theorem dX8_init_95 : decode cX8_init 95 = .ok (.putfield 59, 3) := by decide +kernel
theorem dX8_init_98 : decode cX8_init 98 = .ok (.iconst 0, 1) := by decide +kernel
theorem dX8_init_99 : decode cX8_init 99 = .ok (.istore_n 1, 1) := by decide +kernel
theorem dX8_init_100 : decode cX8_init 100 = .ok (.iload_n 1, 1) := by decide +kernel
theorem dX8_init_101 : decode cX8_init 101 = .ok (.iconst 4, 1) := by decide +kernel
theorem dX8_init_102 : decode cX8_init 102 = .ok (.if_icmp .ge 22, 3) := by decide +kernel
theorem dX8_init_105 : decode cX8_init 105 = .ok (.aload_n 0, 1) := by decide +kernel
theorem dX8_init_106 : decode cX8_init 106 = .ok (.getfield 59, 3) := by decide +kernel
theorem dX8_init_109 : decode cX8_init 109 = .ok (.iload_n 1, 1) := by decide +kernel
theorem dX8_init_110 : decode cX8_init 110 = .ok (.new 57, 3) := by decide +kernel
theorem dX8_init_113 : decode cX8_init 113 = .ok (.dup, 1) := by decide +kernel
theorem dX8_init_114 : decode cX8_init 114 = .ok (.invokespecial 63, 3) := by decide +kernel
theorem dX8_init_117 : decode cX8_init 117 = .ok (.aastore, 1) := by decide +kernel
theorem dX8_init_118 : decode cX8_init 118 = .ok (.iinc 1 1, 3) := by decide +kernel
theorem dX8_init_121 : decode cX8_init 121 = .ok (.goto (-21), 3) := by decide +kernel
theorem dX8_init_124 : decode cX8_init 124 = .ok (.aload_n 0, 1) := by decide +kernel
theorem dX8_init_125 : decode cX8_init 125 = .ok (.getfield 28, 3) := by decide +kernel
theorem dX8_init_128 : decode cX8_init 128 = .ok (.ldc 64, 2) := by decide +kernel
theorem dX8_init_130 : decode cX8_init 130 = .ok (.invokevirtual 66, 3) := by decide +kernel
theorem dX8_init_133 : decode cX8_init 133 = .ok (.aload_n 0, 1) := by decide +kernel
theorem dX8_init_134 : decode cX8_init 134 = .ok (.getfield 28, 3) := by decide +kernel
theorem dX8_init_137 : decode cX8_init 137 = .ok (.invokevirtual 70, 3) := by decide +kernel
theorem dX8_init_140 : decode cX8_init 140 = .ok (.pop, 1) := by decide +kernel
theorem dX8_init_141 : decode cX8_init 141 = .ok (.aload_n 0, 1) := by decide +kernel
theorem dX8_init_142 : decode cX8_init 142 = .ok (.getfield 28, 3) := by decide +kernel
theorem dX8_init_145 : decode cX8_init 145 = .ok (.invokevirtual 74, 3) := by decide +kernel
theorem dX8_init_148 : decode cX8_init 148 = .ok (.return_, 1) := by decide +kernel
def nst (U : State) : Prop := va_Nw (.methodLinkNest RX8 9 yX1_init RX8) U ∧ va_Nw (.methodLinkNest RX8 18 yX5_init RX8) U ∧ va_Nw (.methodLinkNest RX8 52 yX2_init RX8) U ∧ va_Nw (.methodLinkNest RX8 63 yX6_init RX8) U
def pre8 (dC : Nat → ClassId) (dI : Nat → Nat → Nat) (Aa : Nat → ClassId) (adS : Nat → Nat → Nat) (nz : Value) (h0 sz : Nat) : Array Value → State → Prop := va_Pc [.ref h0] (fun U => U.heap.size = sz ∧ va_P (dC, dI) scl [(h0, .inr (8, [.null, .null, .null, .null, .null, .null, .null]))] U.heap ∧ va_K (dC, dI) scl (tyS Aa) U ∧ ovA Aa U ∧ va_AO "OtherSidesPump$Sheet" U ∧ nst U ∧ SF adS nz (va_A [(h0, .inr (8, [.null, .null, .null, .null, .null, .null, .null]))] sz) U U.heap ∧ va_D (fun _ => True) [(h0, .inr (8, [.null, .null, .null, .null, .null, .null, .null]))])
def post8 (dC : Nat → ClassId) (dI : Nat → Nat → Nat) (Aa : Nat → ClassId) (adS : Nat → Nat → Nat) (σ : Sg) (h0 : Nat) (A : Nat → Prop) : Array Value → State → Outcome → State → Prop := va_Qv (fun u : Nat → Nat → Nat => u 0 0 = h0 ∧ (∀ c j, 52 ≤ c → u c j = adS c j) ∧ okS σ) (fun u t => va_P (dC, dI) scl (wl u Aa prsC σ) t.heap ∧ va_D A (wl u Aa prsC σ)) A
theorem adC_52 {h0 qs : Nat} {u1 u5 u4 u7 u0 u2 v0 v1 v2 v3 adS : Nat → Nat → Nat} (c j : Nat) (h : 52 ≤ c) : adC h0 qs u1 u5 u4 u7 u0 u2 v0 v1 v2 v3 adS c j = adS c j := by
  unfold adC
  rw [if_neg (by omega), if_neg (by omega), if_neg (by omega), if_neg (by omega), if_neg (by omega), if_neg (by omega), if_neg (by omega), if_neg (by omega), if_neg (by omega)]
set_option maxHeartbeats 4000000 in
set_option maxRecDepth 100000 in
theorem c_X8 (l : Launch) (dC : Nat → ClassId) (dI : Nat → Nat → Nat) (Aa : Nat → ClassId) (adS : Nat → Nat → Nat) (nz : Value) (hz : nz.category = 1) {s1 s2 s3 : Sg} {r : Int} (a1 : RUN 60 mX4_lay [vr 11 0, vr 55 0] sg0 = some (none, s1)) (a2 : RUN 60 mX4_readText [vr 11 0] s1 = some (some (vi r), s2)) (a3 : RUN 60 mX4_empty [vr 11 0] s2 = some (none, s3)) (h0 sz : Nat) : Met l yX8_init (Cond.code yX8_init cX8_init 2 none :: gws) ({ frames := 62, cells := 59, slots := 1920, locals := 6200 }) (pre8 dC dI Aa adS nz h0 sz) (post8 dC dI Aa adS s3 h0 (va_A [(h0, .inr (8, [.null, .null, .null, .null, .null, .null, .null]))] sz)) 59 1920 (va_A [(h0, .inr (8, [.null, .null, .null, .null, .null, .null, .null]))] sz) := by
  refine Met.ofW (cc := cX8_init) (maxL := 2) (ret := none) (by decide) rfl ?_
  intro p e s m args below meth c s₁ B hml hv
  obtain ⟨rfl, hsz, hP, hK, hov, hao, ⟨n1, n5, n2, n6⟩, hSF, hD0⟩ := hv
  have hx := B.exec
  have hb := B.bytes
  have hr := B.returns
  have hts := atoms_spec (ws := Cond.code yX8_init cX8_init 2 none :: gws) B.pre
  have hgs : ∀ w ∈ gws, w.before ([.ref h0] : List Value).toArray s = true := fun w hw => hts w (List.mem_cons_of_mem _ hw)
  have hown : s.vm.findClass (RO 8) = some m.cls := findClass_of_methodNamed B.named
  have hin : meth.name = "<init>" := (name_of_methodNamed B.named B.method).1
  subst hsz
  have hD := hD0.self (sz := s.heap.size)
  generalize hAe : va_A [(h0, .inr (8, [.null, .null, .null, .null, .null, .null, .null]))] s.heap.size = A at hD hSF ⊢
  have hA : ∀ q : Nat, s.heap.size ≤ q → A q := fun q h => by rw [← hAe]; exact Or.inr h
  have hS : va_S A s.heap s.heap [] := va_S.rf
  have hl := lv_entry ([.ref h0]) (n := 2) (Nat.le_of_ble_eq_true rfl)
  rw [lg_entry_eq]
  generalize (lg_sl ([.ref h0]) ++ List.replicate (2 - (lg_sl ([.ref h0])).length) Slot.unset).toArray = ls at hl ⊢
  have hl : lv_has ls 2 [(0, .ref h0)] := hl
  refine lv_aload_n hx hb dX8_init_0 rfl (lv_at hl 0 rfl) ?_
  refine W.objInit hx hb hown (hgs (.methodLink (RO 8) 1 objectInit) (gws_1 23 (by decide +kernel) (by decide +kernel))) (hgs (.instanceMethod objectInit) (gws_1 24 (by decide +kernel) (by decide +kernel))) (hgs (.code objectInit ⟨#[0xb1]⟩ 1 none) (gws_1 25 (by decide +kernel) (by decide +kernel))) rfl (by rw [hml]; exact hl.1) rfl dX8_init_1 (Nat.le_of_ble_eq_true rfl) (Nat.le_of_ble_eq_true rfl) ?_
  refine W.eq (g2 := F0 m 4 ls []) rfl ?_
  refine lv_aload_n hx hb dX8_init_4 rfl (lv_at hl 0 rfl) ?_
  refine nw_new (own := RO 8) (ci := 1) (fs := [.null, .int 0]) hx hb hgs hown hK hP hD hS hA (by decide) (by decide) (gws_1 26 (by decide +kernel) (by decide +kernel)) (gws_1 27 (by decide +kernel) (by decide +kernel)) gi_1 (by decide +kernel) (Nat.le_of_ble_eq_true rfl) (Nat.le_of_ble_eq_true rfl) dX8_init_5 (fun qq H hP hD hS => ?_)
  refine lv_dup hx hb dX8_init_8 rfl ?_
  refine mk_callN (host := RX8) (As := []) (rest := [.ref qq, .ref h0]) (n := 0) (nL := 2) (own := RO 8) hx hb hml hown hgs hK hov hP hD hS hA (c_X1 l dC dI Aa qq _) (gws_1 30 rfl (by decide +kernel)) gi_1 n1 (gws_1 29 (by decide +kernel) (by decide +kernel)) rfl ⟨by decide, by decide, by decide +kernel⟩ ⟨(Nat.le_of_ble_eq_true rfl), (Nat.le_of_ble_eq_true rfl)⟩ ⟨(Nat.le_of_ble_eq_true rfl), (Nat.le_of_ble_eq_true rfl)⟩ hl.1 rfl (Nat.le_of_ble_eq_true rfl) dX8_init_9 (fun u1 H locs hw hP1 hD1 hS => ?_)
  subst hw
  have hP : va_P (dC, dI) scl ((h0, .inr (8, [.null, .null, .null, .null, .null, .null, .null])) :: ([] ++ wl u1 Aa pX1 sg0)) H := hP1
  have hD : va_D A ((h0, .inr (8, [.null, .null, .null, .null, .null, .null, .null])) :: ([] ++ wl u1 Aa pX1 sg0)) := hD1
  refine nw_put (o := 8) (k := 0) (v := .ref (u1 1 0)) hx hb hgs hown hin hK hP hD hS (by decide) rfl rfl rfl rfl (Nat.le_of_ble_eq_true rfl) dX8_init_12 (fun H locs hP hD hS => ?_)
  have hP : va_P (dC, dI) scl ((h0, .inr (8, [.ref (u1 1 0), .null, .null, .null, .null, .null, .null])) :: ([] ++ wl u1 Aa pX1 sg0)) H := hP
  have hD : va_D A ((h0, .inr (8, [.ref (u1 1 0), .null, .null, .null, .null, .null, .null])) :: ([] ++ wl u1 Aa pX1 sg0)) := hD
  refine lv_aload_n hx hb dX8_init_15 rfl (lv_at hl 0 rfl) ?_
  refine nw_new (own := RO 8) (ci := 5) (fs := [.null, .null, .null, .null, .int 0, .int 0, .int 0]) hx hb hgs hown hK hP hD hS hA (by decide) (by decide) (gws_1 42 (by decide +kernel) (by decide +kernel)) (gws_1 43 (by decide +kernel) (by decide +kernel)) gi_5 (by decide +kernel) (Nat.le_of_ble_eq_true rfl) (Nat.le_of_ble_eq_true rfl) dX8_init_16 (fun qq H hP hD hS => ?_)
  refine lv_dup hx hb dX8_init_19 rfl ?_
  refine mk_callN (host := RX8) (As := []) (rest := [.ref qq, .ref h0]) (n := 0) (nL := 2) (own := RO 8) hx hb hml hown hgs hK hov hP hD hS hA (c_X5 l dC dI Aa qq _) (gws_1 46 rfl (by decide +kernel)) gi_5 n5 (gws_1 45 (by decide +kernel) (by decide +kernel)) rfl ⟨by decide, by decide, by decide +kernel⟩ ⟨(Nat.le_of_ble_eq_true rfl), (Nat.le_of_ble_eq_true rfl)⟩ ⟨(Nat.le_of_ble_eq_true rfl), (Nat.le_of_ble_eq_true rfl)⟩ hl.1 rfl (Nat.le_of_ble_eq_true rfl) dX8_init_20 (fun u5 H locs hw hP1 hD1 hS => ?_)
  subst hw
  have hP : va_P (dC, dI) scl ((h0, .inr (8, [.ref (u1 1 0), .null, .null, .null, .null, .null, .null])) :: ([] ++ wl u1 Aa pX1 sg0 ++ wl u5 Aa pX5 sg0)) H := hP1
  have hD : va_D A ((h0, .inr (8, [.ref (u1 1 0), .null, .null, .null, .null, .null, .null])) :: ([] ++ wl u1 Aa pX1 sg0 ++ wl u5 Aa pX5 sg0)) := hD1
  refine nw_put (o := 8) (k := 1) (v := .ref (u5 4 0)) hx hb hgs hown hin hK hP hD hS (by decide) rfl rfl rfl rfl (Nat.le_of_ble_eq_true rfl) dX8_init_23 (fun H locs hP hD hS => ?_)
  have hP : va_P (dC, dI) scl ((h0, .inr (8, [.ref (u1 1 0), .ref (u5 4 0), .null, .null, .null, .null, .null])) :: ([] ++ wl u1 Aa pX1 sg0 ++ wl u5 Aa pX5 sg0)) H := hP
  have hD : va_D A ((h0, .inr (8, [.ref (u1 1 0), .ref (u5 4 0), .null, .null, .null, .null, .null])) :: ([] ++ wl u1 Aa pX1 sg0 ++ wl u5 Aa pX5 sg0)) := hD
  refine lv_aload_n hx hb dX8_init_26 rfl (lv_at hl 0 rfl) ?_
  refine nw_new (own := RO 8) (ci := 4) (fs := [.null, .null, .int 0, .int 0, .int 0, .int 0, .int 0]) hx hb hgs hown hK hP hD hS hA (by decide) (by decide) (gws_1 71 (by decide +kernel) (by decide +kernel)) (gws_1 72 (by decide +kernel) (by decide +kernel)) gi_4 (by decide +kernel) (Nat.le_of_ble_eq_true rfl) (Nat.le_of_ble_eq_true rfl) dX8_init_27 (fun qq H hP hD hS => ?_)
  refine lv_dup hx hb dX8_init_30 rfl ?_
  refine lv_aload_n hx hb dX8_init_31 rfl (lv_at hl 0 rfl) ?_
  refine nw_get (o := 8) (k := 1) hx hb hgs hown hK hP (by decide) rfl rfl dX8_init_32 ?_
  refine mk_call (As := [.ref (u5 4 0)]) (rest := [.ref qq, .ref h0]) (n := 1) (nL := 2) (own := RO 8) hx hb hml hown hgs hK hov hP hD hS hA (c_X4 l dC dI Aa qq (u5 4 0) _) (gws_1 75 rfl (by decide +kernel)) gi_4 (gws_1 73 (by decide +kernel) (by decide +kernel)) (gws_1 74 (by decide +kernel) (by decide +kernel)) rfl ⟨by decide, by decide, by decide +kernel⟩ ⟨(Nat.le_of_ble_eq_true rfl), (Nat.le_of_ble_eq_true rfl)⟩ ⟨(Nat.le_of_ble_eq_true rfl), (Nat.le_of_ble_eq_true rfl)⟩ hl.1 rfl (Nat.le_of_ble_eq_true rfl) dX8_init_35 (fun u4 H locs hw hP1 hD1 hS => ?_)
  obtain ⟨hw, e4a⟩ := hw
  subst hw
  have hP : va_P (dC, dI) scl ((h0, .inr (8, [.ref (u1 1 0), .ref (u5 4 0), .null, .null, .null, .null, .null])) :: ([] ++ wl u1 Aa pX1 sg0 ++ wl u5 Aa pX5 sg0 ++ wl u4 Aa pX4 sg0)) H := hP1
  have hD : va_D A ((h0, .inr (8, [.ref (u1 1 0), .ref (u5 4 0), .null, .null, .null, .null, .null])) :: ([] ++ wl u1 Aa pX1 sg0 ++ wl u5 Aa pX5 sg0 ++ wl u4 Aa pX4 sg0)) := hD1
  refine nw_put (o := 8) (k := 2) (v := .ref (u4 11 0)) hx hb hgs hown hin hK hP hD hS (by decide) rfl rfl rfl rfl (Nat.le_of_ble_eq_true rfl) dX8_init_38 (fun H locs hP hD hS => ?_)
  have hP : va_P (dC, dI) scl ((h0, .inr (8, [.ref (u1 1 0), .ref (u5 4 0), .ref (u4 11 0), .null, .null, .null, .null])) :: ([] ++ wl u1 Aa pX1 sg0 ++ wl u5 Aa pX5 sg0 ++ wl u4 Aa pX4 sg0)) H := hP
  have hD : va_D A ((h0, .inr (8, [.ref (u1 1 0), .ref (u5 4 0), .ref (u4 11 0), .null, .null, .null, .null])) :: ([] ++ wl u1 Aa pX1 sg0 ++ wl u5 Aa pX5 sg0 ++ wl u4 Aa pX4 sg0)) := hD
  refine lv_aload_n hx hb dX8_init_41 rfl (lv_at hl 0 rfl) ?_
  refine nw_new (own := RO 8) (ci := 7) (fs := [.null, .null, .null, .null, .null, .null, .null, .null, .null, .int 0, .int 0, .int 0, .int 0, .int 0, .int 0]) hx hb hgs hown hK hP hD hS hA (by decide) (by decide) (gws_1 99 (by decide +kernel) (by decide +kernel)) (gws_1 100 (by decide +kernel) (by decide +kernel)) gi_7 (by decide +kernel) (Nat.le_of_ble_eq_true rfl) (Nat.le_of_ble_eq_true rfl) dX8_init_42 (fun qq H hP hD hS => ?_)
  refine lv_dup hx hb dX8_init_45 rfl ?_
  refine lv_aload_n hx hb dX8_init_46 rfl (lv_at hl 0 rfl) ?_
  refine nw_get (o := 8) (k := 0) hx hb hgs hown hK hP (by decide) rfl rfl dX8_init_47 ?_
  refine lv_aload_n hx hb dX8_init_50 rfl (lv_at hl 0 rfl) ?_
  refine nw_get (o := 8) (k := 1) hx hb hgs hown hK hP (by decide) rfl rfl dX8_init_51 ?_
  refine mk_call (As := [.ref (u1 1 0), .ref (u5 4 0)]) (rest := [.ref qq, .ref h0]) (n := 2) (nL := 2) (own := RO 8) hx hb hml hown hgs hK hov hP hD hS hA (c_X7 l dC dI Aa qq (u1 1 0) (u5 4 0) _) (gws_1 103 rfl (by decide +kernel)) gi_7 (gws_1 101 (by decide +kernel) (by decide +kernel)) (gws_1 102 (by decide +kernel) (by decide +kernel)) rfl ⟨by decide, by decide, by decide +kernel⟩ ⟨(Nat.le_of_ble_eq_true rfl), (Nat.le_of_ble_eq_true rfl)⟩ ⟨(Nat.le_of_ble_eq_true rfl), (Nat.le_of_ble_eq_true rfl)⟩ hl.1 rfl (Nat.le_of_ble_eq_true rfl) dX8_init_54 (fun u7 H locs hw hP1 hD1 hS => ?_)
  obtain ⟨hw, e7a, e7b⟩ := hw
  subst hw
  have hP : va_P (dC, dI) scl ((h0, .inr (8, [.ref (u1 1 0), .ref (u5 4 0), .ref (u4 11 0), .null, .null, .null, .null])) :: ([] ++ wl u1 Aa pX1 sg0 ++ wl u5 Aa pX5 sg0 ++ wl u4 Aa pX4 sg0 ++ wl u7 Aa pX7 sg0)) H := hP1
  have hD : va_D A ((h0, .inr (8, [.ref (u1 1 0), .ref (u5 4 0), .ref (u4 11 0), .null, .null, .null, .null])) :: ([] ++ wl u1 Aa pX1 sg0 ++ wl u5 Aa pX5 sg0 ++ wl u4 Aa pX4 sg0 ++ wl u7 Aa pX7 sg0)) := hD1
  refine nw_put (o := 8) (k := 3) (v := .ref (u7 13 0)) hx hb hgs hown hin hK hP hD hS (by decide) rfl rfl rfl rfl (Nat.le_of_ble_eq_true rfl) dX8_init_57 (fun H locs hP hD hS => ?_)
  have hP : va_P (dC, dI) scl ((h0, .inr (8, [.ref (u1 1 0), .ref (u5 4 0), .ref (u4 11 0), .ref (u7 13 0), .null, .null, .null])) :: ([] ++ wl u1 Aa pX1 sg0 ++ wl u5 Aa pX5 sg0 ++ wl u4 Aa pX4 sg0 ++ wl u7 Aa pX7 sg0)) H := hP
  have hD : va_D A ((h0, .inr (8, [.ref (u1 1 0), .ref (u5 4 0), .ref (u4 11 0), .ref (u7 13 0), .null, .null, .null])) :: ([] ++ wl u1 Aa pX1 sg0 ++ wl u5 Aa pX5 sg0 ++ wl u4 Aa pX4 sg0 ++ wl u7 Aa pX7 sg0)) := hD
  refine lv_aload_n hx hb dX8_init_60 rfl (lv_at hl 0 rfl) ?_
  refine nw_new (own := RO 8) (ci := 0) (fs := [.null, .null, .null, .null, .null, .int 0, .int 0]) hx hb hgs hown hK hP hD hS hA (by decide) (by decide) (gws_1 151 (by decide +kernel) (by decide +kernel)) (gws_1 152 (by decide +kernel) (by decide +kernel)) gi_0 (by decide +kernel) (Nat.le_of_ble_eq_true rfl) (Nat.le_of_ble_eq_true rfl) dX8_init_61 (fun qq H hP hD hS => ?_)
  refine lv_dup hx hb dX8_init_64 rfl ?_
  refine lv_aload_n hx hb dX8_init_65 rfl (lv_at hl 0 rfl) ?_
  refine nw_get (o := 8) (k := 0) hx hb hgs hown hK hP (by decide) rfl rfl dX8_init_66 ?_
  refine lv_aload_n hx hb dX8_init_69 rfl (lv_at hl 0 rfl) ?_
  refine nw_get (o := 8) (k := 3) hx hb hgs hown hK hP (by decide) rfl rfl dX8_init_70 ?_
  refine mk_call (As := [.ref (u1 1 0), .ref (u7 13 0)]) (rest := [.ref qq, .ref h0]) (n := 2) (nL := 2) (own := RO 8) hx hb hml hown hgs hK hov hP hD hS hA (c_X0 l dC dI Aa qq (u1 1 0) (u7 13 0) _) (gws_1 155 rfl (by decide +kernel)) gi_0 (gws_1 153 (by decide +kernel) (by decide +kernel)) (gws_1 154 (by decide +kernel) (by decide +kernel)) rfl ⟨by decide, by decide, by decide +kernel⟩ ⟨(Nat.le_of_ble_eq_true rfl), (Nat.le_of_ble_eq_true rfl)⟩ ⟨(Nat.le_of_ble_eq_true rfl), (Nat.le_of_ble_eq_true rfl)⟩ hl.1 rfl (Nat.le_of_ble_eq_true rfl) dX8_init_73 (fun u0 H locs hw hP1 hD1 hS => ?_)
  obtain ⟨hw, e0a, e0b⟩ := hw
  subst hw
  have hP : va_P (dC, dI) scl ((h0, .inr (8, [.ref (u1 1 0), .ref (u5 4 0), .ref (u4 11 0), .ref (u7 13 0), .null, .null, .null])) :: ([] ++ wl u1 Aa pX1 sg0 ++ wl u5 Aa pX5 sg0 ++ wl u4 Aa pX4 sg0 ++ wl u7 Aa pX7 sg0 ++ wl u0 Aa pX0 sg0)) H := hP1
  have hD : va_D A ((h0, .inr (8, [.ref (u1 1 0), .ref (u5 4 0), .ref (u4 11 0), .ref (u7 13 0), .null, .null, .null])) :: ([] ++ wl u1 Aa pX1 sg0 ++ wl u5 Aa pX5 sg0 ++ wl u4 Aa pX4 sg0 ++ wl u7 Aa pX7 sg0 ++ wl u0 Aa pX0 sg0)) := hD1
  refine nw_put (o := 8) (k := 4) (v := .ref (u0 21 0)) hx hb hgs hown hin hK hP hD hS (by decide) rfl rfl rfl rfl (Nat.le_of_ble_eq_true rfl) dX8_init_76 (fun H locs hP hD hS => ?_)
  have hP : va_P (dC, dI) scl ((h0, .inr (8, [.ref (u1 1 0), .ref (u5 4 0), .ref (u4 11 0), .ref (u7 13 0), .ref (u0 21 0), .null, .null])) :: ([] ++ wl u1 Aa pX1 sg0 ++ wl u5 Aa pX5 sg0 ++ wl u4 Aa pX4 sg0 ++ wl u7 Aa pX7 sg0 ++ wl u0 Aa pX0 sg0)) H := hP
  have hD : va_D A ((h0, .inr (8, [.ref (u1 1 0), .ref (u5 4 0), .ref (u4 11 0), .ref (u7 13 0), .ref (u0 21 0), .null, .null])) :: ([] ++ wl u1 Aa pX1 sg0 ++ wl u5 Aa pX5 sg0 ++ wl u4 Aa pX4 sg0 ++ wl u7 Aa pX7 sg0 ++ wl u0 Aa pX0 sg0)) := hD
  refine lv_aload_n hx hb dX8_init_79 rfl (lv_at hl 0 rfl) ?_
  refine nw_new (own := RO 8) (ci := 2) (fs := [.null, .int 0, .int 0]) hx hb hgs hown hK hP hD hS hA (by decide) (by decide) (gws_1 180 (by decide +kernel) (by decide +kernel)) (gws_1 181 (by decide +kernel) (by decide +kernel)) gi_2 (by decide +kernel) (Nat.le_of_ble_eq_true rfl) (Nat.le_of_ble_eq_true rfl) dX8_init_80 (fun qq H hP hD hS => ?_)
  refine lv_dup hx hb dX8_init_83 rfl ?_
  refine mk_callN (host := RX8) (As := []) (rest := [.ref qq, .ref h0]) (n := 0) (nL := 2) (own := RO 8) hx hb hml hown hgs hK hov hP hD hS hA (c_X2 l dC dI Aa qq _) (gws_1 184 rfl (by decide +kernel)) gi_2 n2 (gws_1 183 (by decide +kernel) (by decide +kernel)) rfl ⟨by decide, by decide, by decide +kernel⟩ ⟨(Nat.le_of_ble_eq_true rfl), (Nat.le_of_ble_eq_true rfl)⟩ ⟨(Nat.le_of_ble_eq_true rfl), (Nat.le_of_ble_eq_true rfl)⟩ hl.1 rfl (Nat.le_of_ble_eq_true rfl) dX8_init_84 (fun u2 H locs hw hP1 hD1 hS => ?_)
  subst hw
  have hP : va_P (dC, dI) scl ((h0, .inr (8, [.ref (u1 1 0), .ref (u5 4 0), .ref (u4 11 0), .ref (u7 13 0), .ref (u0 21 0), .null, .null])) :: ([] ++ wl u1 Aa pX1 sg0 ++ wl u5 Aa pX5 sg0 ++ wl u4 Aa pX4 sg0 ++ wl u7 Aa pX7 sg0 ++ wl u0 Aa pX0 sg0 ++ wl u2 Aa pX2 sg0)) H := hP1
  have hD : va_D A ((h0, .inr (8, [.ref (u1 1 0), .ref (u5 4 0), .ref (u4 11 0), .ref (u7 13 0), .ref (u0 21 0), .null, .null])) :: ([] ++ wl u1 Aa pX1 sg0 ++ wl u5 Aa pX5 sg0 ++ wl u4 Aa pX4 sg0 ++ wl u7 Aa pX7 sg0 ++ wl u0 Aa pX0 sg0 ++ wl u2 Aa pX2 sg0)) := hD1
  refine nw_put (o := 8) (k := 6) (v := .ref (u2 26 0)) hx hb hgs hown hin hK hP hD hS (by decide) rfl rfl rfl rfl (Nat.le_of_ble_eq_true rfl) dX8_init_87 (fun H locs hP hD hS => ?_)
  have hP : va_P (dC, dI) scl ((h0, .inr (8, [.ref (u1 1 0), .ref (u5 4 0), .ref (u4 11 0), .ref (u7 13 0), .ref (u0 21 0), .null, .ref (u2 26 0)])) :: ([] ++ wl u1 Aa pX1 sg0 ++ wl u5 Aa pX5 sg0 ++ wl u4 Aa pX4 sg0 ++ wl u7 Aa pX7 sg0 ++ wl u0 Aa pX0 sg0 ++ wl u2 Aa pX2 sg0)) H := hP
  have hD : va_D A ((h0, .inr (8, [.ref (u1 1 0), .ref (u5 4 0), .ref (u4 11 0), .ref (u7 13 0), .ref (u0 21 0), .null, .ref (u2 26 0)])) :: ([] ++ wl u1 Aa pX1 sg0 ++ wl u5 Aa pX5 sg0 ++ wl u4 Aa pX4 sg0 ++ wl u7 Aa pX7 sg0 ++ wl u0 Aa pX0 sg0 ++ wl u2 Aa pX2 sg0)) := hD
  refine lv_aload_n hx hb dX8_init_90 rfl (lv_at hl 0 rfl) ?_
  refine lv_iconst (v := 4) hx hb dX8_init_91 (by decide) ?_
  refine nw_sheets (N' := 4) hx hb hown (hgs (.classLink (RO 8) 57 "OtherSidesPump$Sheet") (gws_1 197 (by decide +kernel) (by decide +kernel))) hao hK hP hD hS hA (by decide) (by decide +kernel) (Nat.le_of_ble_eq_true rfl) (Nat.le_of_ble_eq_true rfl) (Nat.le_of_ble_eq_true rfl) dX8_init_92 (fun qs H hP hD hS => ?_)
  have hP := vP_perm (List.Perm.cons _ (List.perm_append_singleton _ _)) hP
  have hD := vD_perm (List.Perm.cons _ (List.perm_append_singleton _ _)) hD
  have hP : va_P (dC, dI) scl ((h0, .inr (8, [.ref (u1 1 0), .ref (u5 4 0), .ref (u4 11 0), .ref (u7 13 0), .ref (u0 21 0), .null, .ref (u2 26 0)])) :: (qs, .inl (Aa 3, 4, .inr (.inr (.inr (.inr (fun _ => none)))))) :: ([] ++ wl u1 Aa pX1 sg0 ++ wl u5 Aa pX5 sg0 ++ wl u4 Aa pX4 sg0 ++ wl u7 Aa pX7 sg0 ++ wl u0 Aa pX0 sg0 ++ wl u2 Aa pX2 sg0)) H := hP
  have hD : va_D A ((h0, .inr (8, [.ref (u1 1 0), .ref (u5 4 0), .ref (u4 11 0), .ref (u7 13 0), .ref (u0 21 0), .null, .ref (u2 26 0)])) :: (qs, .inl (Aa 3, 4, .inr (.inr (.inr (.inr (fun _ => none)))))) :: ([] ++ wl u1 Aa pX1 sg0 ++ wl u5 Aa pX5 sg0 ++ wl u4 Aa pX4 sg0 ++ wl u7 Aa pX7 sg0 ++ wl u0 Aa pX0 sg0 ++ wl u2 Aa pX2 sg0)) := hD
  refine nw_put (o := 8) (k := 5) (v := .ref qs) hx hb hgs hown hin hK hP hD hS (by decide) rfl rfl rfl rfl (Nat.le_of_ble_eq_true rfl) dX8_init_95 (fun H locs hP hD hS => ?_)
  have hP : va_P (dC, dI) scl ((h0, .inr (8, [.ref (u1 1 0), .ref (u5 4 0), .ref (u4 11 0), .ref (u7 13 0), .ref (u0 21 0), .ref qs, .ref (u2 26 0)])) :: (qs, .inl (Aa 3, 4, .inr (.inr (.inr (.inr (fun _ => none)))))) :: ([] ++ wl u1 Aa pX1 sg0 ++ wl u5 Aa pX5 sg0 ++ wl u4 Aa pX4 sg0 ++ wl u7 Aa pX7 sg0 ++ wl u0 Aa pX0 sg0 ++ wl u2 Aa pX2 sg0)) H := hP
  have hD : va_D A ((h0, .inr (8, [.ref (u1 1 0), .ref (u5 4 0), .ref (u4 11 0), .ref (u7 13 0), .ref (u0 21 0), .ref qs, .ref (u2 26 0)])) :: (qs, .inl (Aa 3, 4, .inr (.inr (.inr (.inr (fun _ => none)))))) :: ([] ++ wl u1 Aa pX1 sg0 ++ wl u5 Aa pX5 sg0 ++ wl u4 Aa pX4 sg0 ++ wl u7 Aa pX7 sg0 ++ wl u0 Aa pX0 sg0 ++ wl u2 Aa pX2 sg0)) := hD
  refine lv_iconst (v := 0) hx hb dX8_init_98 (by decide) ?_
  refine lv_istore_n (lv' := [(1, .int 0), (0, .ref h0)]) hx hb dX8_init_99 rfl hl (by decide) rfl (fun ls hl => ?_)
  refine lv_iload_n hx hb dX8_init_100 rfl (lv_at hl 0 rfl) ?_
  refine lv_iconst (v := 4) hx hb dX8_init_101 (by decide) ?_
  refine lv_icmp_ge (tgt := 124) hx hb dX8_init_102 (by decide) (fun c9 => absurd c9 (by decide)) (fun _ => ?_)
  refine lv_aload_n hx hb dX8_init_105 rfl (lv_at hl 1 rfl) ?_
  refine nw_get (o := 8) (k := 5) hx hb hgs hown hK hP (by decide) rfl rfl dX8_init_106 ?_
  refine lv_iload_n hx hb dX8_init_109 rfl (lv_at hl 0 rfl) ?_
  refine nw_new (own := RO 8) (ci := 6) (fs := [.null, .int 0, .int 0]) hx hb hgs hown hK hP hD hS hA (by decide) (by decide) (gws_1 197 (by decide +kernel) (by decide +kernel)) (gws_1 199 (by decide +kernel) (by decide +kernel)) gi_6 (by decide +kernel) (Nat.le_of_ble_eq_true rfl) (Nat.le_of_ble_eq_true rfl) dX8_init_110 (fun qq H hP hD hS => ?_)
  refine lv_dup hx hb dX8_init_113 rfl ?_
  refine mk_callN (host := RX8) (As := []) (rest := [.ref qq, .int 0, .ref qs]) (n := 0) (nL := 2) (own := RO 8) hx hb hml hown hgs hK hov hP hD hS hA (c_X6 l dC dI Aa qq 0 _) (gws_1 202 rfl (by decide +kernel)) gi_6 n6 (gws_1 201 (by decide +kernel) (by decide +kernel)) rfl ⟨by decide, by decide, by decide +kernel⟩ ⟨(Nat.le_of_ble_eq_true rfl), (Nat.le_of_ble_eq_true rfl)⟩ ⟨(Nat.le_of_ble_eq_true rfl), (Nat.le_of_ble_eq_true rfl)⟩ hl.1 rfl (Nat.le_of_ble_eq_true rfl) dX8_init_114 (fun v0 H locs hw hP1 hD1 hS => ?_)
  subst hw
  have hP : va_P (dC, dI) scl ((h0, .inr (8, [.ref (u1 1 0), .ref (u5 4 0), .ref (u4 11 0), .ref (u7 13 0), .ref (u0 21 0), .ref qs, .ref (u2 26 0)])) :: (qs, .inl (Aa 3, 4, .inr (.inr (.inr (.inr (fun _ => none)))))) :: (([] ++ wl u1 Aa pX1 sg0 ++ wl u5 Aa pX5 sg0 ++ wl u4 Aa pX4 sg0 ++ wl u7 Aa pX7 sg0 ++ wl u0 Aa pX0 sg0 ++ wl u2 Aa pX2 sg0) ++ wl v0 Aa (pX6 0) sg0)) H := hP1
  have hD : va_D A ((h0, .inr (8, [.ref (u1 1 0), .ref (u5 4 0), .ref (u4 11 0), .ref (u7 13 0), .ref (u0 21 0), .ref qs, .ref (u2 26 0)])) :: (qs, .inl (Aa 3, 4, .inr (.inr (.inr (.inr (fun _ => none)))))) :: (([] ++ wl u1 Aa pX1 sg0 ++ wl u5 Aa pX5 sg0 ++ wl u4 Aa pX4 sg0 ++ wl u7 Aa pX7 sg0 ++ wl u0 Aa pX0 sg0 ++ wl u2 Aa pX2 sg0) ++ wl v0 Aa (pX6 0) sg0)) := hD1
  obtain ⟨k0, hk0⟩ := List.getElem?_of_mem (List.mem_cons_of_mem _ (List.mem_cons_of_mem _ (List.mem_append.mpr (Or.inr List.mem_cons_self))) : (v0 30 0, enc v0 Aa sg0 30 0) ∈ (h0, .inr (8, [.ref (u1 1 0), .ref (u5 4 0), .ref (u4 11 0), .ref (u7 13 0), .ref (u0 21 0), .ref qs, .ref (u2 26 0)])) :: (qs, .inl (Aa 3, 4, .inr (.inr (.inr (.inr (fun _ => none)))))) :: (([] ++ wl u1 Aa pX1 sg0 ++ wl u5 Aa pX5 sg0 ++ wl u4 Aa pX4 sg0 ++ wl u7 Aa pX7 sg0 ++ wl u0 Aa pX0 sg0 ++ wl u2 Aa pX2 sg0) ++ wl v0 Aa (pX6 0) sg0))
  refine va_astq (r := (RX6, TX6, 3)) (n := 4) hx hb hK hP hD hS 1 3 k0 6 rfl rfl hk0 rfl (by rw [vp_in_iff]; decide) dX8_init_117 (fun H locs hP hD hS => ?_)
  have hP : va_P (dC, dI) scl ((h0, .inr (8, [.ref (u1 1 0), .ref (u5 4 0), .ref (u4 11 0), .ref (u7 13 0), .ref (u0 21 0), .ref qs, .ref (u2 26 0)])) :: (qs, .inl (Aa 3, 4, .inr (.inr (.inr (.inr (va_up (fun _ => none) (0 : Int32).toNatClampNeg (some (v0 30 0)))))))) :: (([] ++ wl u1 Aa pX1 sg0 ++ wl u5 Aa pX5 sg0 ++ wl u4 Aa pX4 sg0 ++ wl u7 Aa pX7 sg0 ++ wl u0 Aa pX0 sg0 ++ wl u2 Aa pX2 sg0) ++ wl v0 Aa (pX6 0) sg0)) H := hP
  have hD : va_D A ((h0, .inr (8, [.ref (u1 1 0), .ref (u5 4 0), .ref (u4 11 0), .ref (u7 13 0), .ref (u0 21 0), .ref qs, .ref (u2 26 0)])) :: (qs, .inl (Aa 3, 4, .inr (.inr (.inr (.inr (va_up (fun _ => none) (0 : Int32).toNatClampNeg (some (v0 30 0)))))))) :: (([] ++ wl u1 Aa pX1 sg0 ++ wl u5 Aa pX5 sg0 ++ wl u4 Aa pX4 sg0 ++ wl u7 Aa pX7 sg0 ++ wl u0 Aa pX0 sg0 ++ wl u2 Aa pX2 sg0) ++ wl v0 Aa (pX6 0) sg0)) := hD
  refine lv_iinc (v := 1) (lv' := [(1, .int 1), (0, .ref h0)]) hx hb dX8_init_118 hl (k := 0) rfl (by decide) (by decide) rfl (fun ls hl => ?_)
  refine lv_goto (tgt := 100) hx hb dX8_init_121 (by decide) ?_
  refine lv_iload_n hx hb dX8_init_100 rfl (lv_at hl 0 rfl) ?_
  refine lv_iconst (v := 4) hx hb dX8_init_101 (by decide) ?_
  refine lv_icmp_ge (tgt := 124) hx hb dX8_init_102 (by decide) (fun c9 => absurd c9 (by decide)) (fun _ => ?_)
  refine lv_aload_n hx hb dX8_init_105 rfl (lv_at hl 1 rfl) ?_
  refine nw_get (o := 8) (k := 5) hx hb hgs hown hK hP (by decide) rfl rfl dX8_init_106 ?_
  refine lv_iload_n hx hb dX8_init_109 rfl (lv_at hl 0 rfl) ?_
  refine nw_new (own := RO 8) (ci := 6) (fs := [.null, .int 0, .int 0]) hx hb hgs hown hK hP hD hS hA (by decide) (by decide) (gws_1 197 (by decide +kernel) (by decide +kernel)) (gws_1 199 (by decide +kernel) (by decide +kernel)) gi_6 (by decide +kernel) (Nat.le_of_ble_eq_true rfl) (Nat.le_of_ble_eq_true rfl) dX8_init_110 (fun qq H hP hD hS => ?_)
  refine lv_dup hx hb dX8_init_113 rfl ?_
  refine mk_callN (host := RX8) (As := []) (rest := [.ref qq, .int 1, .ref qs]) (n := 0) (nL := 2) (own := RO 8) hx hb hml hown hgs hK hov hP hD hS hA (c_X6 l dC dI Aa qq 1 _) (gws_1 202 rfl (by decide +kernel)) gi_6 n6 (gws_1 201 (by decide +kernel) (by decide +kernel)) rfl ⟨by decide, by decide, by decide +kernel⟩ ⟨(Nat.le_of_ble_eq_true rfl), (Nat.le_of_ble_eq_true rfl)⟩ ⟨(Nat.le_of_ble_eq_true rfl), (Nat.le_of_ble_eq_true rfl)⟩ hl.1 rfl (Nat.le_of_ble_eq_true rfl) dX8_init_114 (fun v1 H locs hw hP1 hD1 hS => ?_)
  subst hw
  have hP : va_P (dC, dI) scl ((h0, .inr (8, [.ref (u1 1 0), .ref (u5 4 0), .ref (u4 11 0), .ref (u7 13 0), .ref (u0 21 0), .ref qs, .ref (u2 26 0)])) :: (qs, .inl (Aa 3, 4, .inr (.inr (.inr (.inr (va_up (fun _ => none) (0 : Int32).toNatClampNeg (some (v0 30 0)))))))) :: (([] ++ wl u1 Aa pX1 sg0 ++ wl u5 Aa pX5 sg0 ++ wl u4 Aa pX4 sg0 ++ wl u7 Aa pX7 sg0 ++ wl u0 Aa pX0 sg0 ++ wl u2 Aa pX2 sg0) ++ wl v0 Aa (pX6 0) sg0 ++ wl v1 Aa (pX6 1) sg0)) H := hP1
  have hD : va_D A ((h0, .inr (8, [.ref (u1 1 0), .ref (u5 4 0), .ref (u4 11 0), .ref (u7 13 0), .ref (u0 21 0), .ref qs, .ref (u2 26 0)])) :: (qs, .inl (Aa 3, 4, .inr (.inr (.inr (.inr (va_up (fun _ => none) (0 : Int32).toNatClampNeg (some (v0 30 0)))))))) :: (([] ++ wl u1 Aa pX1 sg0 ++ wl u5 Aa pX5 sg0 ++ wl u4 Aa pX4 sg0 ++ wl u7 Aa pX7 sg0 ++ wl u0 Aa pX0 sg0 ++ wl u2 Aa pX2 sg0) ++ wl v0 Aa (pX6 0) sg0 ++ wl v1 Aa (pX6 1) sg0)) := hD1
  obtain ⟨k1, hk1⟩ := List.getElem?_of_mem (List.mem_cons_of_mem _ (List.mem_cons_of_mem _ (List.mem_append.mpr (Or.inr List.mem_cons_self))) : (v1 30 1, enc v1 Aa sg0 30 1) ∈ (h0, .inr (8, [.ref (u1 1 0), .ref (u5 4 0), .ref (u4 11 0), .ref (u7 13 0), .ref (u0 21 0), .ref qs, .ref (u2 26 0)])) :: (qs, .inl (Aa 3, 4, .inr (.inr (.inr (.inr (va_up (fun _ => none) (0 : Int32).toNatClampNeg (some (v0 30 0)))))))) :: (([] ++ wl u1 Aa pX1 sg0 ++ wl u5 Aa pX5 sg0 ++ wl u4 Aa pX4 sg0 ++ wl u7 Aa pX7 sg0 ++ wl u0 Aa pX0 sg0 ++ wl u2 Aa pX2 sg0) ++ wl v0 Aa (pX6 0) sg0 ++ wl v1 Aa (pX6 1) sg0))
  refine va_astq (r := (RX6, TX6, 3)) (n := 4) hx hb hK hP hD hS 1 3 k1 6 rfl rfl hk1 rfl (by rw [vp_in_iff]; decide) dX8_init_117 (fun H locs hP hD hS => ?_)
  have hP : va_P (dC, dI) scl ((h0, .inr (8, [.ref (u1 1 0), .ref (u5 4 0), .ref (u4 11 0), .ref (u7 13 0), .ref (u0 21 0), .ref qs, .ref (u2 26 0)])) :: (qs, .inl (Aa 3, 4, .inr (.inr (.inr (.inr (va_up (va_up (fun _ => none) (0 : Int32).toNatClampNeg (some (v0 30 0))) (1 : Int32).toNatClampNeg (some (v1 30 1)))))))) :: (([] ++ wl u1 Aa pX1 sg0 ++ wl u5 Aa pX5 sg0 ++ wl u4 Aa pX4 sg0 ++ wl u7 Aa pX7 sg0 ++ wl u0 Aa pX0 sg0 ++ wl u2 Aa pX2 sg0) ++ wl v0 Aa (pX6 0) sg0 ++ wl v1 Aa (pX6 1) sg0)) H := hP
  have hD : va_D A ((h0, .inr (8, [.ref (u1 1 0), .ref (u5 4 0), .ref (u4 11 0), .ref (u7 13 0), .ref (u0 21 0), .ref qs, .ref (u2 26 0)])) :: (qs, .inl (Aa 3, 4, .inr (.inr (.inr (.inr (va_up (va_up (fun _ => none) (0 : Int32).toNatClampNeg (some (v0 30 0))) (1 : Int32).toNatClampNeg (some (v1 30 1)))))))) :: (([] ++ wl u1 Aa pX1 sg0 ++ wl u5 Aa pX5 sg0 ++ wl u4 Aa pX4 sg0 ++ wl u7 Aa pX7 sg0 ++ wl u0 Aa pX0 sg0 ++ wl u2 Aa pX2 sg0) ++ wl v0 Aa (pX6 0) sg0 ++ wl v1 Aa (pX6 1) sg0)) := hD
  refine lv_iinc (v := 2) (lv' := [(1, .int 2), (0, .ref h0)]) hx hb dX8_init_118 hl (k := 0) rfl (by decide) (by decide) rfl (fun ls hl => ?_)
  refine lv_goto (tgt := 100) hx hb dX8_init_121 (by decide) ?_
  refine lv_iload_n hx hb dX8_init_100 rfl (lv_at hl 0 rfl) ?_
  refine lv_iconst (v := 4) hx hb dX8_init_101 (by decide) ?_
  refine lv_icmp_ge (tgt := 124) hx hb dX8_init_102 (by decide) (fun c9 => absurd c9 (by decide)) (fun _ => ?_)
  refine lv_aload_n hx hb dX8_init_105 rfl (lv_at hl 1 rfl) ?_
  refine nw_get (o := 8) (k := 5) hx hb hgs hown hK hP (by decide) rfl rfl dX8_init_106 ?_
  refine lv_iload_n hx hb dX8_init_109 rfl (lv_at hl 0 rfl) ?_
  refine nw_new (own := RO 8) (ci := 6) (fs := [.null, .int 0, .int 0]) hx hb hgs hown hK hP hD hS hA (by decide) (by decide) (gws_1 197 (by decide +kernel) (by decide +kernel)) (gws_1 199 (by decide +kernel) (by decide +kernel)) gi_6 (by decide +kernel) (Nat.le_of_ble_eq_true rfl) (Nat.le_of_ble_eq_true rfl) dX8_init_110 (fun qq H hP hD hS => ?_)
  refine lv_dup hx hb dX8_init_113 rfl ?_
  refine mk_callN (host := RX8) (As := []) (rest := [.ref qq, .int 2, .ref qs]) (n := 0) (nL := 2) (own := RO 8) hx hb hml hown hgs hK hov hP hD hS hA (c_X6 l dC dI Aa qq 2 _) (gws_1 202 rfl (by decide +kernel)) gi_6 n6 (gws_1 201 (by decide +kernel) (by decide +kernel)) rfl ⟨by decide, by decide, by decide +kernel⟩ ⟨(Nat.le_of_ble_eq_true rfl), (Nat.le_of_ble_eq_true rfl)⟩ ⟨(Nat.le_of_ble_eq_true rfl), (Nat.le_of_ble_eq_true rfl)⟩ hl.1 rfl (Nat.le_of_ble_eq_true rfl) dX8_init_114 (fun v2 H locs hw hP1 hD1 hS => ?_)
  subst hw
  have hP : va_P (dC, dI) scl ((h0, .inr (8, [.ref (u1 1 0), .ref (u5 4 0), .ref (u4 11 0), .ref (u7 13 0), .ref (u0 21 0), .ref qs, .ref (u2 26 0)])) :: (qs, .inl (Aa 3, 4, .inr (.inr (.inr (.inr (va_up (va_up (fun _ => none) (0 : Int32).toNatClampNeg (some (v0 30 0))) (1 : Int32).toNatClampNeg (some (v1 30 1)))))))) :: (([] ++ wl u1 Aa pX1 sg0 ++ wl u5 Aa pX5 sg0 ++ wl u4 Aa pX4 sg0 ++ wl u7 Aa pX7 sg0 ++ wl u0 Aa pX0 sg0 ++ wl u2 Aa pX2 sg0) ++ wl v0 Aa (pX6 0) sg0 ++ wl v1 Aa (pX6 1) sg0 ++ wl v2 Aa (pX6 2) sg0)) H := hP1
  have hD : va_D A ((h0, .inr (8, [.ref (u1 1 0), .ref (u5 4 0), .ref (u4 11 0), .ref (u7 13 0), .ref (u0 21 0), .ref qs, .ref (u2 26 0)])) :: (qs, .inl (Aa 3, 4, .inr (.inr (.inr (.inr (va_up (va_up (fun _ => none) (0 : Int32).toNatClampNeg (some (v0 30 0))) (1 : Int32).toNatClampNeg (some (v1 30 1)))))))) :: (([] ++ wl u1 Aa pX1 sg0 ++ wl u5 Aa pX5 sg0 ++ wl u4 Aa pX4 sg0 ++ wl u7 Aa pX7 sg0 ++ wl u0 Aa pX0 sg0 ++ wl u2 Aa pX2 sg0) ++ wl v0 Aa (pX6 0) sg0 ++ wl v1 Aa (pX6 1) sg0 ++ wl v2 Aa (pX6 2) sg0)) := hD1
  obtain ⟨k2, hk2⟩ := List.getElem?_of_mem (List.mem_cons_of_mem _ (List.mem_cons_of_mem _ (List.mem_append.mpr (Or.inr List.mem_cons_self))) : (v2 30 2, enc v2 Aa sg0 30 2) ∈ (h0, .inr (8, [.ref (u1 1 0), .ref (u5 4 0), .ref (u4 11 0), .ref (u7 13 0), .ref (u0 21 0), .ref qs, .ref (u2 26 0)])) :: (qs, .inl (Aa 3, 4, .inr (.inr (.inr (.inr (va_up (va_up (fun _ => none) (0 : Int32).toNatClampNeg (some (v0 30 0))) (1 : Int32).toNatClampNeg (some (v1 30 1)))))))) :: (([] ++ wl u1 Aa pX1 sg0 ++ wl u5 Aa pX5 sg0 ++ wl u4 Aa pX4 sg0 ++ wl u7 Aa pX7 sg0 ++ wl u0 Aa pX0 sg0 ++ wl u2 Aa pX2 sg0) ++ wl v0 Aa (pX6 0) sg0 ++ wl v1 Aa (pX6 1) sg0 ++ wl v2 Aa (pX6 2) sg0))
  refine va_astq (r := (RX6, TX6, 3)) (n := 4) hx hb hK hP hD hS 1 3 k2 6 rfl rfl hk2 rfl (by rw [vp_in_iff]; decide) dX8_init_117 (fun H locs hP hD hS => ?_)
  have hP : va_P (dC, dI) scl ((h0, .inr (8, [.ref (u1 1 0), .ref (u5 4 0), .ref (u4 11 0), .ref (u7 13 0), .ref (u0 21 0), .ref qs, .ref (u2 26 0)])) :: (qs, .inl (Aa 3, 4, .inr (.inr (.inr (.inr (va_up (va_up (va_up (fun _ => none) (0 : Int32).toNatClampNeg (some (v0 30 0))) (1 : Int32).toNatClampNeg (some (v1 30 1))) (2 : Int32).toNatClampNeg (some (v2 30 2)))))))) :: (([] ++ wl u1 Aa pX1 sg0 ++ wl u5 Aa pX5 sg0 ++ wl u4 Aa pX4 sg0 ++ wl u7 Aa pX7 sg0 ++ wl u0 Aa pX0 sg0 ++ wl u2 Aa pX2 sg0) ++ wl v0 Aa (pX6 0) sg0 ++ wl v1 Aa (pX6 1) sg0 ++ wl v2 Aa (pX6 2) sg0)) H := hP
  have hD : va_D A ((h0, .inr (8, [.ref (u1 1 0), .ref (u5 4 0), .ref (u4 11 0), .ref (u7 13 0), .ref (u0 21 0), .ref qs, .ref (u2 26 0)])) :: (qs, .inl (Aa 3, 4, .inr (.inr (.inr (.inr (va_up (va_up (va_up (fun _ => none) (0 : Int32).toNatClampNeg (some (v0 30 0))) (1 : Int32).toNatClampNeg (some (v1 30 1))) (2 : Int32).toNatClampNeg (some (v2 30 2)))))))) :: (([] ++ wl u1 Aa pX1 sg0 ++ wl u5 Aa pX5 sg0 ++ wl u4 Aa pX4 sg0 ++ wl u7 Aa pX7 sg0 ++ wl u0 Aa pX0 sg0 ++ wl u2 Aa pX2 sg0) ++ wl v0 Aa (pX6 0) sg0 ++ wl v1 Aa (pX6 1) sg0 ++ wl v2 Aa (pX6 2) sg0)) := hD
  refine lv_iinc (v := 3) (lv' := [(1, .int 3), (0, .ref h0)]) hx hb dX8_init_118 hl (k := 0) rfl (by decide) (by decide) rfl (fun ls hl => ?_)
  refine lv_goto (tgt := 100) hx hb dX8_init_121 (by decide) ?_
  refine lv_iload_n hx hb dX8_init_100 rfl (lv_at hl 0 rfl) ?_
  refine lv_iconst (v := 4) hx hb dX8_init_101 (by decide) ?_
  refine lv_icmp_ge (tgt := 124) hx hb dX8_init_102 (by decide) (fun c9 => absurd c9 (by decide)) (fun _ => ?_)
  refine lv_aload_n hx hb dX8_init_105 rfl (lv_at hl 1 rfl) ?_
  refine nw_get (o := 8) (k := 5) hx hb hgs hown hK hP (by decide) rfl rfl dX8_init_106 ?_
  refine lv_iload_n hx hb dX8_init_109 rfl (lv_at hl 0 rfl) ?_
  refine nw_new (own := RO 8) (ci := 6) (fs := [.null, .int 0, .int 0]) hx hb hgs hown hK hP hD hS hA (by decide) (by decide) (gws_1 197 (by decide +kernel) (by decide +kernel)) (gws_1 199 (by decide +kernel) (by decide +kernel)) gi_6 (by decide +kernel) (Nat.le_of_ble_eq_true rfl) (Nat.le_of_ble_eq_true rfl) dX8_init_110 (fun qq H hP hD hS => ?_)
  refine lv_dup hx hb dX8_init_113 rfl ?_
  refine mk_callN (host := RX8) (As := []) (rest := [.ref qq, .int 3, .ref qs]) (n := 0) (nL := 2) (own := RO 8) hx hb hml hown hgs hK hov hP hD hS hA (c_X6 l dC dI Aa qq 3 _) (gws_1 202 rfl (by decide +kernel)) gi_6 n6 (gws_1 201 (by decide +kernel) (by decide +kernel)) rfl ⟨by decide, by decide, by decide +kernel⟩ ⟨(Nat.le_of_ble_eq_true rfl), (Nat.le_of_ble_eq_true rfl)⟩ ⟨(Nat.le_of_ble_eq_true rfl), (Nat.le_of_ble_eq_true rfl)⟩ hl.1 rfl (Nat.le_of_ble_eq_true rfl) dX8_init_114 (fun v3 H locs hw hP1 hD1 hS => ?_)
  subst hw
  have hP : va_P (dC, dI) scl ((h0, .inr (8, [.ref (u1 1 0), .ref (u5 4 0), .ref (u4 11 0), .ref (u7 13 0), .ref (u0 21 0), .ref qs, .ref (u2 26 0)])) :: (qs, .inl (Aa 3, 4, .inr (.inr (.inr (.inr (va_up (va_up (va_up (fun _ => none) (0 : Int32).toNatClampNeg (some (v0 30 0))) (1 : Int32).toNatClampNeg (some (v1 30 1))) (2 : Int32).toNatClampNeg (some (v2 30 2)))))))) :: (([] ++ wl u1 Aa pX1 sg0 ++ wl u5 Aa pX5 sg0 ++ wl u4 Aa pX4 sg0 ++ wl u7 Aa pX7 sg0 ++ wl u0 Aa pX0 sg0 ++ wl u2 Aa pX2 sg0) ++ wl v0 Aa (pX6 0) sg0 ++ wl v1 Aa (pX6 1) sg0 ++ wl v2 Aa (pX6 2) sg0 ++ wl v3 Aa (pX6 3) sg0)) H := hP1
  have hD : va_D A ((h0, .inr (8, [.ref (u1 1 0), .ref (u5 4 0), .ref (u4 11 0), .ref (u7 13 0), .ref (u0 21 0), .ref qs, .ref (u2 26 0)])) :: (qs, .inl (Aa 3, 4, .inr (.inr (.inr (.inr (va_up (va_up (va_up (fun _ => none) (0 : Int32).toNatClampNeg (some (v0 30 0))) (1 : Int32).toNatClampNeg (some (v1 30 1))) (2 : Int32).toNatClampNeg (some (v2 30 2)))))))) :: (([] ++ wl u1 Aa pX1 sg0 ++ wl u5 Aa pX5 sg0 ++ wl u4 Aa pX4 sg0 ++ wl u7 Aa pX7 sg0 ++ wl u0 Aa pX0 sg0 ++ wl u2 Aa pX2 sg0) ++ wl v0 Aa (pX6 0) sg0 ++ wl v1 Aa (pX6 1) sg0 ++ wl v2 Aa (pX6 2) sg0 ++ wl v3 Aa (pX6 3) sg0)) := hD1
  obtain ⟨k3, hk3⟩ := List.getElem?_of_mem (List.mem_cons_of_mem _ (List.mem_cons_of_mem _ (List.mem_append.mpr (Or.inr List.mem_cons_self))) : (v3 30 3, enc v3 Aa sg0 30 3) ∈ (h0, .inr (8, [.ref (u1 1 0), .ref (u5 4 0), .ref (u4 11 0), .ref (u7 13 0), .ref (u0 21 0), .ref qs, .ref (u2 26 0)])) :: (qs, .inl (Aa 3, 4, .inr (.inr (.inr (.inr (va_up (va_up (va_up (fun _ => none) (0 : Int32).toNatClampNeg (some (v0 30 0))) (1 : Int32).toNatClampNeg (some (v1 30 1))) (2 : Int32).toNatClampNeg (some (v2 30 2)))))))) :: (([] ++ wl u1 Aa pX1 sg0 ++ wl u5 Aa pX5 sg0 ++ wl u4 Aa pX4 sg0 ++ wl u7 Aa pX7 sg0 ++ wl u0 Aa pX0 sg0 ++ wl u2 Aa pX2 sg0) ++ wl v0 Aa (pX6 0) sg0 ++ wl v1 Aa (pX6 1) sg0 ++ wl v2 Aa (pX6 2) sg0 ++ wl v3 Aa (pX6 3) sg0))
  refine va_astq (r := (RX6, TX6, 3)) (n := 4) hx hb hK hP hD hS 1 3 k3 6 rfl rfl hk3 rfl (by rw [vp_in_iff]; decide) dX8_init_117 (fun H locs hP hD hS => ?_)
  have hP : va_P (dC, dI) scl ((h0, .inr (8, [.ref (u1 1 0), .ref (u5 4 0), .ref (u4 11 0), .ref (u7 13 0), .ref (u0 21 0), .ref qs, .ref (u2 26 0)])) :: (qs, .inl (Aa 3, 4, .inr (.inr (.inr (.inr (va_up (va_up (va_up (va_up (fun _ => none) (0 : Int32).toNatClampNeg (some (v0 30 0))) (1 : Int32).toNatClampNeg (some (v1 30 1))) (2 : Int32).toNatClampNeg (some (v2 30 2))) (3 : Int32).toNatClampNeg (some (v3 30 3)))))))) :: (([] ++ wl u1 Aa pX1 sg0 ++ wl u5 Aa pX5 sg0 ++ wl u4 Aa pX4 sg0 ++ wl u7 Aa pX7 sg0 ++ wl u0 Aa pX0 sg0 ++ wl u2 Aa pX2 sg0) ++ wl v0 Aa (pX6 0) sg0 ++ wl v1 Aa (pX6 1) sg0 ++ wl v2 Aa (pX6 2) sg0 ++ wl v3 Aa (pX6 3) sg0)) H := hP
  have hD : va_D A ((h0, .inr (8, [.ref (u1 1 0), .ref (u5 4 0), .ref (u4 11 0), .ref (u7 13 0), .ref (u0 21 0), .ref qs, .ref (u2 26 0)])) :: (qs, .inl (Aa 3, 4, .inr (.inr (.inr (.inr (va_up (va_up (va_up (va_up (fun _ => none) (0 : Int32).toNatClampNeg (some (v0 30 0))) (1 : Int32).toNatClampNeg (some (v1 30 1))) (2 : Int32).toNatClampNeg (some (v2 30 2))) (3 : Int32).toNatClampNeg (some (v3 30 3)))))))) :: (([] ++ wl u1 Aa pX1 sg0 ++ wl u5 Aa pX5 sg0 ++ wl u4 Aa pX4 sg0 ++ wl u7 Aa pX7 sg0 ++ wl u0 Aa pX0 sg0 ++ wl u2 Aa pX2 sg0) ++ wl v0 Aa (pX6 0) sg0 ++ wl v1 Aa (pX6 1) sg0 ++ wl v2 Aa (pX6 2) sg0 ++ wl v3 Aa (pX6 3) sg0)) := hD
  refine lv_iinc (v := 4) (lv' := [(1, .int 4), (0, .ref h0)]) hx hb dX8_init_118 hl (k := 0) rfl (by decide) (by decide) rfl (fun ls hl => ?_)
  refine lv_goto (tgt := 100) hx hb dX8_init_121 (by decide) ?_
  refine lv_iload_n hx hb dX8_init_100 rfl (lv_at hl 0 rfl) ?_
  refine lv_iconst (v := 4) hx hb dX8_init_101 (by decide) ?_
  refine lv_icmp_ge (tgt := 124) hx hb dX8_init_102 (by decide) (fun _ => ?_) (fun c9 => absurd (by decide) c9)
  rw [arr4] at hP hD
  have hP9 : va_P (dC, dI) scl (wl (adC h0 qs u1 u5 u4 u7 u0 u2 v0 v1 v2 v3 adS) Aa prsC sg0) H := by rw [wlC e4a e7a e7b e0a e0b]; exact hP
  have hD9 : va_D A (wl (adC h0 qs u1 u5 u4 u7 u0 u2 v0 v1 v2 v3 adS) Aa prsC sg0) := by rw [wlC e4a e7a e7b e0a e0b]; exact hD
  clear hP hD hP1 hD1
  have hsf : ∀ c j, 52 ≤ c → (adC h0 qs u1 u5 u4 u7 u0 u2 v0 v1 v2 v3 adS) c j = adS c j := adC_52
  have had0 : (adC h0 qs u1 u5 u4 u7 u0 u2 v0 v1 v2 v3 adS) 0 0 = h0 := rfl
  generalize hade : (adC h0 qs u1 u5 u4 u7 u0 u2 v0 v1 v2 v3 adS) = ad at hP9 hD9 hsf had0
  have hP := hP9
  have hD := hD9
  have hSF := SF_cg (fun c h => hsf c 0 h) hSF
  have C : RX p s m _ c cX8_init 2 (RO 8) dC dI ad nz Aa (tyS Aa) prsC A := ⟨hx, hb, hml, hown, hgs, hK, hz, prsC_ok, tysOk_S Aa prsC, wl_D _ hD, hSF, hA⟩
  have hE : ∀ σ, wl ad Aa prsC σ = (h0, .inr (8, [.ref (ad 1 0), .ref (ad 4 0), .ref (ad 11 0), .ref (ad 13 0), .ref (ad 21 0), .ref (ad 29 0), .ref (ad 26 0)])) :: wl ad Aa prsC.tail σ := fun σ => by rw [← had0]; rfl
  have ok0 := okS_0
  refine lv_aload_n hx hb dX8_init_124 rfl (lv_at hl 1 rfl) ?_
  refine nw_get (o := 8) (k := 2) hx hb hgs hown hK (by rw [hE] at hP; exact hP) (by decide) rfl rfl dX8_init_125 ?_
  refine va_ldcS hx hb hown hSF.2.2.2.2.1.1 dX8_init_128 ?_
  refine rm_v (as := [vr 55 0]) (rest := []) C ⟨gvX4_lay, (gws_1 215 (by decide +kernel) (by decide +kernel)), by decide +kernel, by decide +kernel, rfl⟩ a1 (fun v hv => by rcases List.mem_cons.mp hv with rfl | hv; exact Or.inr ⟨by decide, by decide, rfl⟩; cases hv) ok0 rfl (by decide +kernel) hP hS ⟨(Nat.le_of_ble_eq_true rfl), (Nat.le_of_ble_eq_true rfl)⟩ ⟨(Nat.le_of_ble_eq_true rfl), (Nat.le_of_ble_eq_true rfl)⟩ hl.1 (Nat.le_of_ble_eq_true rfl) dX8_init_130 (fun H locs ok1 hP hS => ?_)
  refine lv_aload_n hx hb dX8_init_133 rfl (lv_at hl 1 rfl) ?_
  refine nw_get (o := 8) (k := 2) hx hb hgs hown hK (by rw [hE] at hP; exact hP) (by decide) rfl rfl dX8_init_134 ?_
  refine rm_i (as := []) (rest := []) C ⟨gvX4_readText, (gws_2 31 (by decide +kernel) (by decide +kernel)), by decide +kernel, by decide +kernel, rfl⟩ a2 (fun v hv => by cases hv) ok1 rfl (by decide +kernel) hP hS ⟨(Nat.le_of_ble_eq_true rfl), (Nat.le_of_ble_eq_true rfl)⟩ ⟨(Nat.le_of_ble_eq_true rfl), (Nat.le_of_ble_eq_true rfl)⟩ hl.1 (Nat.le_of_ble_eq_true rfl) dX8_init_137 (fun H locs ok2 hP hS => ?_)
  refine lv_pop hx hb dX8_init_140 rfl ?_
  refine lv_aload_n hx hb dX8_init_141 rfl (lv_at hl 1 rfl) ?_
  refine nw_get (o := 8) (k := 2) hx hb hgs hown hK (by rw [hE] at hP; exact hP) (by decide) rfl rfl dX8_init_142 ?_
  refine rm_v (as := []) (rest := []) C ⟨gvX4_empty, (gws_2 180 (by decide +kernel) (by decide +kernel)), by decide +kernel, by decide +kernel, rfl⟩ a3 (fun v hv => by cases hv) ok2 rfl (by decide +kernel) hP hS ⟨(Nat.le_of_ble_eq_true rfl), (Nat.le_of_ble_eq_true rfl)⟩ ⟨(Nat.le_of_ble_eq_true rfl), (Nat.le_of_ble_eq_true rfl)⟩ hl.1 (Nat.le_of_ble_eq_true rfl) dX8_init_145 (fun H locs ok3 hP hS => ?_)
  exact W.vret hx hb hr (fun t ht hW => ⟨⟨ad, rfl, ⟨had0, hsf, ok3⟩, by rw [ht]; exact hP, wl_D _ hD⟩, hS.F ht⟩) hS.2.2 dX8_init_148
