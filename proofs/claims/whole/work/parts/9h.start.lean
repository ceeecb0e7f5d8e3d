/-! THE LAW 7: its start -/
theorem en_K {s : State} {args : Array Value} (hgs : ∀ w ∈ gws, w.before args s = true) : ∃ (dC : Nat → ClassId) (dI : Nat → Nat → Nat), ∀ (k : Nat) (q : vw_C), scl[k]? = some q → u_Kn s q.1 q.2.1 q.2.2 (dC k) (dI k) := by
  obtain ⟨c0, i0, h0⟩ := u_known (C := RO 0) (T := TF 0) (N := nF 0) (n := 7) hgs (lay_ok (ci := 0) (by decide)) (hgs _ (gws_1 152 (by decide +kernel) (by decide +kernel)))
  obtain ⟨c1, i1, h1⟩ := u_known (C := RO 1) (T := TF 1) (N := nF 1) (n := 2) hgs (lay_ok (ci := 1) (by decide)) (hgs _ (gws_1 27 (by decide +kernel) (by decide +kernel)))
  obtain ⟨c2, i2, h2⟩ := u_known (C := RO 2) (T := TF 2) (N := nF 2) (n := 3) hgs (lay_ok (ci := 2) (by decide)) (hgs _ (gws_1 181 (by decide +kernel) (by decide +kernel)))
  obtain ⟨c4, i4, h4⟩ := u_known (C := RO 4) (T := TF 4) (N := nF 4) (n := 7) hgs (lay_ok (ci := 4) (by decide)) (hgs _ (gws_1 72 (by decide +kernel) (by decide +kernel)))
  obtain ⟨c5, i5, h5⟩ := u_known (C := RO 5) (T := TF 5) (N := nF 5) (n := 7) hgs (lay_ok (ci := 5) (by decide)) (hgs _ (gws_1 43 (by decide +kernel) (by decide +kernel)))
  obtain ⟨c6, i6, h6⟩ := u_known (C := RO 6) (T := TF 6) (N := nF 6) (n := 3) hgs (lay_ok (ci := 6) (by decide)) (hgs _ (gws_1 199 (by decide +kernel) (by decide +kernel)))
  obtain ⟨c7, i7, h7⟩ := u_known (C := RO 7) (T := TF 7) (N := nF 7) (n := 15) hgs (lay_ok (ci := 7) (by decide)) (hgs _ (gws_1 100 (by decide +kernel) (by decide +kernel)))
  obtain ⟨c8, i8, h8⟩ := u_known (C := RO 8) (T := TF 8) (N := nF 8) (n := 7) hgs (lay_ok (ci := 8) (by decide)) (hgs _ (gws_1 19 (by decide +kernel) (by decide +kernel)))
  obtain ⟨c9, i9, h9⟩ := u_known (C := RO 9) (T := TF 9) (N := nF 9) (n := 44) hgs (lay_ok (ci := 9) (by decide)) (hgs _ (gws_4 163 (by decide +kernel) (by decide +kernel)))
  refine ⟨fun k => match k with | 0 => c0 | 1 => c1 | 2 => c2 | 3 => c6 | 4 => c4 | 5 => c5 | 6 => c6 | 7 => c7 | 8 => c8 | _ => c9, fun k => match k with | 0 => i0 | 1 => i1 | 2 => i2 | 3 => i6 | 4 => i4 | 5 => i5 | 6 => i6 | 7 => i7 | 8 => i8 | _ => i9, ?_⟩
  intro k q hq
  match k, hq with
  | 0, hq => cases hq; exact h0
  | 1, hq => cases hq; exact h1
  | 2, hq => cases hq; exact h2
  | 3, hq => cases hq; exact h6
  | 4, hq => cases hq; exact h4
  | 5, hq => cases hq; exact h5
  | 6, hq => cases hq; exact h6
  | 7, hq => cases hq; exact h7
  | 8, hq => cases hq; exact h8
  | 9, hq => cases hq; exact h9
  | k + 10, hq => cases hq
theorem enc_sg {ad : Nat → Nat → Nat} {Aa : Nat → ClassId} {σ σ' : Sg} {c j : Nat} (h : σ c = σ' c) : enc ad Aa σ c j = enc ad Aa σ' c j := by
  unfold enc fV
  simp only [h]
theorem wl_sg {ad : Nat → Nat → Nat} {Aa : Nat → ClassId} {σ σ' : Sg} {prs : List (Nat × Nat)} (h : ∀ q ∈ prs, σ q.1 = σ' q.1) : wl ad Aa prs σ = wl ad Aa prs σ' :=
  List.map_congr_left (fun q hq => by rw [enc_sg (h q hq)])
theorem C_lt : ∀ q ∈ prsC, q.1 < 32 := by decide +kernel
theorem ndC_lt : ∀ q ∈ nd prsC, q.1 < 32 := by decide +kernel
theorem ndM_ge : ∀ q ∈ nd prsM, 32 ≤ q.1 := by decide +kernel
def adA (u v : Nat → Nat → Nat) : Nat → Nat → Nat := fun c j => if c < 32 then u c j else v c j
theorem wlA {u v : Nat → Nat → Nat} {Aa : Nat → ClassId} {s3 t : Sg} (h : ∀ c, c < 32 → t c = s3 c) : wl (adA u v) Aa prsA t = wl u Aa prsC s3 ++ wl v Aa prsM t := by
  rw [wl_app, wl_cg (ad := adA u v) (ad' := u) (prs := prsC) (fun q hq => if_pos (ndC_lt q hq)), wl_cg (ad := adA u v) (ad' := v) (prs := prsM) (fun q hq => if_neg (Nat.not_lt.mpr (ndM_ge q hq))), wl_sg (σ := t) (σ' := s3) (prs := prsC) (fun q hq => h q.1 (C_lt q hq))]
theorem nst_mv {s U : State} (hW : s.WarmedH U.vm) (h : nst s) : nst U := ⟨va_Nw.warmM hW h.1, va_Nw.warmM hW h.2.1, va_Nw.warmM hW h.2.2.1, va_Nw.warmM hW h.2.2.2⟩
theorem nst_same {s U : State} (hv : s.vm = U.vm) (h : nst s) : nst U := ⟨va_Nw.same rfl hv h.1, va_Nw.same rfl hv h.2.1, va_Nw.same rfl hv h.2.2.1, va_Nw.same rfl hv h.2.2.2⟩
theorem blind8 {dC : Nat → ClassId} {dI : Nat → Nat → Nat} {Aa : Nat → ClassId} {adS : Nat → Nat → Nat} {nz : Value} {h0 sz : Nat} : FrameBlind (pre8 dC dI Aa adS nz h0 sz) := by
  intro a U g mk h
  obtain ⟨z0, z1, z2, z3, z4, z5, z6, z7, z8⟩ := h
  exact ⟨z0, z1, z2, va_K.moved (u := U) (U := U.calling g mk a) (Vm.Alike.refl U.vm) z3, ovA.moved (u := U) (U := U.calling g mk a) (Vm.Alike.refl U.vm) z4, va_AO.moved (u := U) (U := U.calling g mk a) (Vm.Alike.refl U.vm) z5, nst_same (s := U) (U := U.calling g mk a) rfl z6, SF.same (u := U) (U := U.calling g mk a) rfl z7, z8⟩
theorem blind9 {dC : Nat → ClassId} {dI : Nat → Nat → Nat} {Aa : Nat → ClassId} {adS : Nat → Nat → Nat} {nz : Value} {h0 sz : Nat} : FrameBlind (pre9 dC dI Aa adS nz h0 sz) := by
  intro a U g mk h
  obtain ⟨z0, z1, z2, z3, z4, z5⟩ := h
  exact ⟨z0, z1, z2, va_K.moved (u := U) (U := U.calling g mk a) (Vm.Alike.refl U.vm) z3, SF.same (u := U) (U := U.calling g mk a) rfl z4, z5⟩
theorem code_in {y : MethodName} {bytes : ByteArray} {maxL : Nat} (hc : Cond.code y bytes maxL none ∈ gws) : GoodIn gws (Cond.code y bytes maxL none :: gws) := fun w hw => by
  have hm : w ∈ gws := by
    rcases List.mem_cons.mp hw with rfl | h
    · exact hc
    · exact h
  exact ⟨hm, gws_good hm⟩
/-- what a call may change: the new object and what comes -/
theorem one_in {A : Nat → Prop} {H0 H : Heap} {locs : List Loc} {ws : va_W} {q : Nat} {e9 : va_E} (hD : va_D A (ws ++ [(q, e9)])) (hS : va_S A H0 H locs) (hA : ∀ q, H0.size ≤ q → A q) : ∀ x, va_A [(q, e9)] H.size x → A x := by
  intro x hx
  rcases hx with ⟨k, e8, h⟩ | h
  · exact (vD_iff.mp (vD_r hD)).2 _ (List.mem_of_getElem? h)
  · exact hA x (Nat.le_trans hS.1 h)
