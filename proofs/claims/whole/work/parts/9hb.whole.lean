/-! THE LAW 8: whole_start -/
set_option maxHeartbeats 4000000 in
set_option maxRecDepth 100000 in
theorem whole_start {p : Program} {e : Env} {s : State} {m : MethodId} {below : List Frame} {meth : Method} {c : Code} (l : Launch) (hflags : l.flags = flags0) {b L : Nat} {xs : Nat → Int32} (hL : L ≤ 3072) (C0 : lw_At p s m meth c b L xs) : W p l e room_1 s m #[Value.ref b] below meth c s.heap [] 0 0 (lw_Z below #[Value.ref b] s) (entryFrame m ([Value.ref b] : List Value).toArray 4) := by
  obtain ⟨hx, hb, hr, hml, hown, hts, hX, hbl, hlocks, hgv⟩ := C0
  have hA : ∀ q : Nat, s.heap.size ≤ q → (fun q : Nat => s.heap.size ≤ q) q := fun _ h => h
  have hgs : ∀ w ∈ gws, w.before #[Value.ref b] s = true := fun w hw => hts w (List.mem_filter.mp hw).1
  obtain ⟨Aa, hT, hov⟩ := en_arr hts
  obtain ⟨hns, hao⟩ := en_nst hts
  obtain ⟨adS, nz, hz, hSF⟩ := en_SF (A := fun q : Nat => s.heap.size ≤ q) hts hgv (fun a ha => Nat.not_le.mpr ha)
  obtain ⟨dC, dI, hKc⟩ := en_K hgs
  have hK : va_K (dC, dI) scl (tyS Aa) s := ⟨hKc, hT⟩
  obtain ⟨s1, s2, s3, r, s4, s5, s6, s7, a1, a2, a3, hs3, b1, b2, b3, b4, hs7, hI⟩ := init_all
  have hS : va_S (fun q : Nat => s.heap.size ≤ q) s.heap s.heap [] := va_S.rf
  have hP : va_P (dC, dI) scl [] s.heap := fun k q h => by simp at h
  have hD : va_D (fun q : Nat => s.heap.size ≤ q) [] := ⟨fun i j p q h => by simp at h, fun k q h => by simp at h⟩
  have hl := lv_entry ([.ref b]) (n := 4) (Nat.le_of_ble_eq_true rfl)
  rw [lg_entry_eq]
  generalize (lg_sl ([.ref b]) ++ List.replicate (4 - (lg_sl ([.ref b])).length) Slot.unset).toArray = ls at hl ⊢
  have hl : lv_has ls 4 [(0, .ref b)] := hl
  refine nw_new (own := R_law) (ci := 8) (fs := [.null, .null, .null, .null, .null, .null, .null]) hx hb hgs hown hK hP hD hS hA (by decide) (by decide) (gws_1 18 (by decide +kernel) (by decide +kernel)) (gws_1 19 (by decide +kernel) (by decide +kernel)) gi_8 (by decide +kernel) (Nat.le_of_ble_eq_true rfl) (Nat.le_of_ble_eq_true rfl) dL_law_0 (fun q0 H hP hD hS => ?_)
  refine lv_dup hx hb dL_law_3 rfl ?_
  have hF := one_in hD hS hA
  refine va_callv (va_runI (As := []) (rest := [.ref q0]) (nL := 4) (Ts := gws) (own := R_law) ⟨hx, hb, hml, hown, hgs⟩ (c_X8 l dC dI Aa adS nz hz a1 a2 a3 q0 H.size) (cwI 0 hgs (code_in (gws_1 22 rfl (by decide +kernel))) rfl rfl rfl (hgs _ gi_8) (hgs _ (gws_1 20 (by decide +kernel) (by decide +kernel))) (hgs _ (gws_1 21 (by decide +kernel) (by decide +kernel))) rfl ⟨by decide, by decide, by decide +kernel⟩ ⟨(Nat.le_of_ble_eq_true rfl), (Nat.le_of_ble_eq_true rfl)⟩) ⟨blind8, fun U hU hW => ⟨rfl, by rw [hU], by rw [hU]; exact vP_r hP, va_K.moved hW.alike hK, hov.moved hW.alike, hao.moved hW.alike, nst_mv hW hns, by rw [hU]; exact SF.moved hW ((hSF.kept hS.2.1).nar hF), (vD_r hD).weaken (fun _ _ _ _ => trivial)⟩⟩ rfl rfl hl.1 rfl (lv_room (Nat.le_of_ble_eq_true rfl)) dL_law_4 ⟨(Nat.le_of_ble_eq_true rfl), (Nat.le_of_ble_eq_true rfl)⟩) hS (fun x _ h => hF x h) hF (fun u t H1 locs1 ht hvm hw hB hz1 hk1 hS1 => ?_)
  obtain ⟨hP1, hD1⟩ := hB
  rw [ht] at hP1
  obtain ⟨hP2, hD2⟩ := v_join hP hD hk1 hF hP1 hD1
  rw [List.nil_append] at hP2 hD2
  obtain ⟨hu, hu2, hok3⟩ := hw
  subst hu
  clear hP hD hF hP1 hD1 hk1
  refine lv_astore_n (lv' := [(1, .ref (u 0 0)), (0, .ref b)]) hx hb dL_law_7 rfl hl (by decide) rfl (fun ls hl => ?_)
  refine nw_new (own := R_law) (ci := 9) (fs := [.int 0, .null, .null, .int 0, .int 0, .null, .int 0, .null, .null, .int 0, .int 0, .int 0, .int 0, .int 0, .int 0, .int 0, .int 0, .int 0, .int 0, .int 0, .int 0, .long 0, .int 0, .int 0, .int 0, .int 0, .null, .null, .null, .null, .null, .null, .null, .null, .int 0, .int 0, .null, .null, .int 0, .int 0, .null, .null, .null, .null]) hx hb hgs hown hK hP2 hD2 hS1 hA (by decide) (by decide) (gws_4 162 (by decide +kernel) (by decide +kernel)) (gws_4 163 (by decide +kernel) (by decide +kernel)) gi_9 (by decide +kernel) (Nat.le_of_ble_eq_true rfl) (Nat.le_of_ble_eq_true rfl) dL_law_8 (fun q1 H hP hD hS => ?_)
  refine lv_dup hx hb dL_law_11 rfl ?_
  have hF := one_in hD hS hA
  refine va_callv (va_runI (As := []) (rest := [.ref q1]) (nL := 4) (Ts := gws) (own := R_law) ⟨hx, hb, hml, hown, hgs⟩ (c_X9 l dC dI Aa adS nz hz hok3 hs3 b1 b2 b3 b4 q1 H.size) (cwI 0 hgs (code_in (gws_4 166 rfl (by decide +kernel))) rfl rfl rfl (hgs _ gi_9) (hgs _ (gws_4 164 (by decide +kernel) (by decide +kernel))) (hgs _ (gws_4 165 (by decide +kernel) (by decide +kernel))) rfl ⟨by decide, by decide, by decide +kernel⟩ ⟨(Nat.le_of_ble_eq_true rfl), (Nat.le_of_ble_eq_true rfl)⟩) ⟨blind9, fun U hU hW => ⟨rfl, by rw [hU], by rw [hU]; exact vP_r hP, va_K.moved hW.alike hK, by rw [hU]; exact SF.moved hW ((hSF.kept hS.2.1).nar hF), (vD_r hD).weaken (fun _ _ _ _ => trivial)⟩⟩ rfl rfl hl.1 rfl (lv_room (Nat.le_of_ble_eq_true rfl)) dL_law_12 ⟨(Nat.le_of_ble_eq_true rfl), (Nat.le_of_ble_eq_true rfl)⟩) hS (fun x _ h => hF x h) hF (fun v t H2 locs2 ht hvm hw hB hz1 hk1 hS2 => ?_)
  obtain ⟨hP1, hD1⟩ := hB
  rw [ht] at hP1
  obtain ⟨hP3, hD3⟩ := v_join hP hD hk1 hF hP1 hD1
  obtain ⟨hv, hv2, hok4⟩ := hw
  subst hv
  clear hP hD hF hP1 hD1 hk1
  have ht4 : ∀ c, c < 32 → (up (up s7 34 0 0 32) 32 0 3 1) c = s3 c := fun c hc => by rw [up_c (by omega), up_c (by omega), hs7 c (by omega)]
  generalize up (up s7 34 0 0 32) 32 0 3 1 = σ at hP3 hD3 hok4 hI ht4
  have hP4 : va_P (dC, dI) scl (wl (adA u v) Aa prsA σ) H2 := by rw [wlA ht4]; exact hP3
  have hD4 : va_D (fun q : Nat => s.heap.size ≤ q) (wl (adA u v) Aa prsA σ) := by rw [wlA ht4]; exact hD3
  have hSA : SF (adA u v) nz (fun q : Nat => s.heap.size ≤ q) s s.heap := SF_cg (fun c hc => (if_neg (by omega)).trans (hv2 c 0 hc)) hSF
  refine lv_astore_n (lv' := [(2, .ref (v 32 0)), (1, .ref (u 0 0)), (0, .ref b)]) hx hb dL_law_15 rfl hl (by decide) rfl (fun ls hl => ?_)
  refine lv_iconst (v := 0) hx hb dL_law_16 (by decide) ?_
  refine lv_istore_n (lv' := [(3, .int 0), (2, .ref (v 32 0)), (1, .ref (u 0 0)), (0, .ref b)]) hx hb dL_law_17 rfl hl (by decide) rfl (fun ls hl => ?_)
  refine W.widen (k := 600000) (n := 7302250) (Nat.le_of_ble_eq_true rfl) (Nat.le_of_ble_eq_true rfl) ?_
  refine law_loop (ad := adA u v) (nz := nz) (Aa := Aa) (dC := dC) (dI := dI) ⟨hx, hb, hml, hown, hgs, hK, hz, prsA_ok, tysOk_S Aa _, wl_D _ hD4, hSA, hA⟩ hX hbl hL ⟨(Nat.le_of_ble_eq_true rfl), (Nat.le_of_ble_eq_true rfl)⟩ (fun H locs ls hS => ?_) (L + 1) 0 (by omega) (by omega) σ H2 locs2 ls hI hok4 hP4 hS2 hl
  refine va_forget hS.2.2 ?_
  refine lv_iconst (v := 1) hx hb dL_law_967 (by decide) ?_
  exact lw_ret hx hb hr hlocks dL_law_968
