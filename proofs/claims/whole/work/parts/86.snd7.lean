/-! THE MACHINE IS SOUND, 7: arrays, the rest of the steps -/
section SN
variable {p : Program} {l : Launch} {e : Env} {R : Room} {s : State} {m : MethodId} {args : Array Value} {below : List Frame} {meth : Method} {c : Code} {Q : State → Prop}
variable {dC : Nat → ClassId} {dI : Nat → Nat → Nat} {ad : Nat → Nat → Nat} {nz : Value} {Aa : Nat → ClassId} {tys : List (ClassId × FieldType)} {prs : List (Nat × Nat)} {A : Nat → Prop} {M : Md}
variable {pc pc' : Nat} {ls ls' st st' : List PV} {σ σ' : Sg} {len : Nat}
/-- a place of an array of references is read, whatever they name -/
theorem ald_ref {cc : ByteArray} {D : va_G} {cl : List vw_C} {ws : va_W} {H : Heap} {locs : List Loc} {la : Array Slot} {rest : List Value} {a : Nat} (hexec : p.tables.exec = Jvm.exec) (hb : c.code = cc) (hK : va_K D cl tys s) (hP : va_P D cl ws H) (q0 t0 : Nat) {cA : ClassId} {ty : FieldType} (hty : ty.isReference = true) {n : Nat} {f : Nat → Option Nat} (ha : ws[q0]? = some (a, .inl (cA, n, .inr (.inr (.inr (.inr f)))))) (ht : tys[t0]? = some (cA, ty)) {i : Int32} (hin : vp_in i n) (hdg : decode cc pc = .ok (.aaload, 1))
    (kk : W p l e R s m args below meth c H locs 0 0 Q (F0 m (pc + 1) la (va_rf (f i.toNatClampNeg) :: rest))) : W p l e R s m args below meth c H locs 0 0 Q (F0 m pc la (.int i :: .ref a :: rest)) := by
  have hlt : i.toNatClampNeg < n := Nat.not_le.mp fun q => hin (Or.inr q)
  exact W.aald (v := va_rf (f i.toNatClampNeg)) (ty := ty) hexec hb (hP q0 _ ha) ((hK.2 t0 _ ht).1 n (fun j => va_rf (f j))) hty (fun q => by cases q) (by show ¬ (i < 0 ∨ (arrV _ _ _).slots.size ≤ _); rw [arrV_size]; exact hin) (by show (arrV _ _ _).slots[_]? = _; rw [arrV_read _ _ hlt]) rfl rfl hdg kk
theorem so_iald (C : Cx p s m args c M dC dI ad nz Aa tys prs A) (hG : Gd prs ls st σ) (hd : decode M.2.2.1 pc = .ok (.iaload, 1)) (h : sIald (pc, ls, st, σ) = some (.inl (pc', ls', st', σ'))) :
    Gd prs ls' st' σ' ∧ Nx p l e R s m args below meth c Q dC dI ad nz Aa prs A pc ls st σ pc' ls' st' σ' := by
  obtain ⟨hx, hb, hml, hts, hown, hK, hD, hSF, hz, hpo, hto⟩ := C
  unfold sIald at h
  split at h
  · rename_i pc0 ls0 i0 a0 j0 st0 s0 heq
    cases heq
    have hi : r32 i0 := hG.2.1.hd
    have hV : (a0, j0) ∈ prs ∨ (52 ≤ a0 ∧ a0 ≤ 61 ∧ j0 = 0) := hG.2.1.tl.hd
    have hT := hG.2.1.tl.tl
    split at h
    · rename_i hk
      split at h
      · rename_i hin
        cases h
        rcases hV with hm | ⟨h1, h2, h3⟩
        · have hp := hpo.2 a0 j0 hm
          obtain ⟨q, hq⟩ := cell_at hm
          obtain ⟨t0, ht0⟩ := hto a0 j0 hm (by omega)
          rw [hk] at ht0
          have hr : r32 (σ a0 j0 i0.toNat) := by
            rcases hG.2.2 a0 j0 i0.toNat with z | ⟨z1, -, -⟩
            · exact z
            · omega
          refine ⟨⟨hG.1, okT.cons (by show r32 _; rw [rd_w hp.1]; exact hr) hT, hG.2.2⟩, nx_row (fun H locs la hP hS hL kk => ?_)⟩
          show W p l e R s m args below meth c H locs 0 0 Q (F0 m _ la (.int (Int32.ofInt i0) :: kc ad nz (.inr (.inl (a0, j0))) :: List.map (kc ad nz) _))
          rw [kc_r (by omega)]
          refine va_iald hx hb hK hP q t0 (by rw [wl_get hq, enc_int hk]) ht0 (i32_in hi hin) hd ?_
          rw [i32_nt hi]
          rw [List.map_cons, show kc ad nz (.inl (rd σ a0 j0 i0.toNat)) = .int (Int32.ofInt (σ a0 j0 i0.toNat)) from by rw [rd_w hp.1]; rfl] at kk
          exact kk
        · have hs := (kdS a0 h1 h2).1 hk
          subst h3
          refine ⟨⟨hG.1, okT.cons (by show r32 _; rw [rd_s h1]; exact sv_ok _ _) hT, hG.2.2⟩, nx_row (fun H locs la hP hS hL kk => ?_)⟩
          show W p l e R s m args below meth c H locs 0 0 Q (F0 m _ la (.int (Int32.ofInt i0) :: kc ad nz (.inr (.inl (a0, 0))) :: List.map (kc ad nz) _))
          rw [kc_r (by omega)]
          refine va_ti hx hb (hSF.2.1 a0 hs.1 hs.2) hS (i32_in hi hin) rfl hd ?_
          rw [i32_nt hi]
          rw [List.map_cons, show kc ad nz (.inl (rd σ a0 0 i0.toNat)) = .int (Int32.ofInt (sv a0 i0.toNat)) from by rw [rd_s h1]; rfl] at kk
          exact kk
      · cases h
    · cases h
  · cases h
theorem so_bald (C : Cx p s m args c M dC dI ad nz Aa tys prs A) (hG : Gd prs ls st σ) (hd : decode M.2.2.1 pc = .ok (.baload, 1)) (h : sBald (pc, ls, st, σ) = some (.inl (pc', ls', st', σ'))) :
    Gd prs ls' st' σ' ∧ Nx p l e R s m args below meth c Q dC dI ad nz Aa prs A pc ls st σ pc' ls' st' σ' := by
  obtain ⟨hx, hb, hml, hts, hown, hK, hD, hSF, hz, hpo, hto⟩ := C
  unfold sBald at h
  split at h
  · rename_i pc0 ls0 i0 a0 j0 st0 s0 heq
    cases heq
    have hi : r32 i0 := hG.2.1.hd
    have hV : (a0, j0) ∈ prs ∨ (52 ≤ a0 ∧ a0 ≤ 61 ∧ j0 = 0) := hG.2.1.tl.hd
    have hT := hG.2.1.tl.tl
    split at h
    · rename_i hk
      split at h
      · rename_i hin
        cases h
        rcases hV with hm | ⟨h1, h2, h3⟩
        · have hp := hpo.2 a0 j0 hm
          obtain ⟨q, hq⟩ := cell_at hm
          obtain ⟨t0, ht0⟩ := hto a0 j0 hm (by omega)
          rw [hk] at ht0
          have hr : r32 (σ a0 j0 i0.toNat) := by
            rcases hG.2.2 a0 j0 i0.toNat with z | ⟨z1, -, -⟩
            · exact z
            · omega
          refine ⟨⟨hG.1, okT.cons (by show r32 _; rw [rd_w hp.1]; exact hr) hT, hG.2.2⟩, nx_row (fun H locs la hP hS hL kk => ?_)⟩
          show W p l e R s m args below meth c H locs 0 0 Q (F0 m _ la (.int (Int32.ofInt i0) :: kc ad nz (.inr (.inl (a0, j0))) :: List.map (kc ad nz) _))
          rw [kc_r (by omega)]
          refine va_zald hx hb hK hP q t0 (by rw [wl_get hq, enc_bool hk]) ht0 (i32_in hi hin) hd ?_
          rw [i32_nt hi]
          rw [List.map_cons, show kc ad nz (.inl (rd σ a0 j0 i0.toNat)) = .int (Int32.ofInt (σ a0 j0 i0.toNat)) from by rw [rd_w hp.1]; rfl] at kk
          exact kk
        · exact absurd hk (kdS a0 h1 h2).2.2.1
      · cases h
    · rename_i hk
      split at h
      · rename_i hin
        cases h
        rcases hV with hm | ⟨h1, h2, h3⟩
        · have hp := hpo.2 a0 j0 hm
          exfalso
          omega
        · have hs := (kdS a0 h1 h2).2.1 hk
          subst h3
          refine ⟨⟨hG.1, okT.cons (by show r32 _; rw [rd_s h1]; exact sv_ok _ _) hT, hG.2.2⟩, nx_row (fun H locs la hP hS hL kk => ?_)⟩
          show W p l e R s m args below meth c H locs 0 0 Q (F0 m _ la (.int (Int32.ofInt i0) :: kc ad nz (.inr (.inl (a0, 0))) :: List.map (kc ad nz) _))
          rw [kc_r (by omega)]
          refine va_tb hx hb (hSF.2.2.1 a0 hs.1 hs.2) hS (i32_in hi hin) rfl hd ?_
          rw [i32_nt hi]
          rw [List.map_cons, show kc ad nz (.inl (rd σ a0 0 i0.toNat)) = .int (Int32.ofInt (sv a0 i0.toNat)) from by rw [rd_s h1]; rfl] at kk
          exact kk
      · cases h
    · cases h
  · cases h
theorem so_aald (C : Cx p s m args c M dC dI ad nz Aa tys prs A) (hG : Gd prs ls st σ) (hd : decode M.2.2.1 pc = .ok (.aaload, 1)) (h : sAald (pc, ls, st, σ) = some (.inl (pc', ls', st', σ'))) :
    Gd prs ls' st' σ' ∧ Nx p l e R s m args below meth c Q dC dI ad nz Aa prs A pc ls st σ pc' ls' st' σ' := by
  obtain ⟨hx, hb, hml, hts, hown, hK, hD, hSF, hz, hpo, hto⟩ := C
  unfold sAald at h
  split at h
  · rename_i pc0 ls0 i0 a0 j0 st0 s0 heq
    cases heq
    have hi : r32 i0 := hG.2.1.hd
    have hV : (a0, j0) ∈ prs ∨ (52 ≤ a0 ∧ a0 ≤ 61 ∧ j0 = 0) := hG.2.1.tl.hd
    have hT := hG.2.1.tl.tl
    split at h
    · rename_i hk
      split at h
      · rename_i hin
        cases h
        rcases hV with hm | ⟨h1, h2, h3⟩
        · have hp := hpo.2 a0 j0 hm
          obtain ⟨q, hq⟩ := cell_at hm
          obtain ⟨t0, ht0⟩ := hto a0 j0 hm (by omega)
          rw [hk] at ht0
          have hlt : i0.toNat < ln a0 := by have := hin.1; have := hin.2; omega
          have hm2 := hp.2.2.1 hk i0.toNat hlt
          have hp2 := hpo.2 _ _ hm2
          refine ⟨⟨hG.1, okT.cons (Or.inl hm2) hT, hG.2.2⟩, nx_row (fun H locs la hP hS hL kk => ?_)⟩
          show W p l e R s m args below meth c H locs 0 0 Q (F0 m _ la (.int (Int32.ofInt i0) :: kc ad nz (.inr (.inl (a0, j0))) :: List.map (kc ad nz) _))
          rw [kc_r (by omega)]
          refine ald_ref hx hb hK hP q t0 (by rfl) (by rw [wl_get hq, enc_grid hk]) ht0 (i32_in hi hin) hd ?_
          rw [i32_nt hi, if_pos hlt]
          rw [List.map_cons, show kc ad nz (.inr (.inl (rf a0 0, i0.toNat))) = .ref (ad (rf a0 0) i0.toNat) from kc_r (by omega)] at kk
          exact kk
        · exact absurd hk (kdS a0 h1 h2).2.2.2.1
      · cases h
    · rename_i hk
      split at h
      · rename_i hin
        cases h
        rcases hV with hm | ⟨h1, h2, h3⟩
        · have hp := hpo.2 a0 j0 hm
          obtain ⟨q, hq⟩ := cell_at hm
          obtain ⟨t0, ht0⟩ := hto a0 j0 hm (by omega)
          rw [hk] at ht0
          have hlt : i0.toNat < ln a0 := by have := hin.1; have := hin.2; omega
          have hm2 := hp.2.2.2.1 hk i0.toNat hlt
          have hp2 := hpo.2 _ _ hm2
          refine ⟨⟨hG.1, okT.cons (Or.inl hm2) hT, hG.2.2⟩, nx_row (fun H locs la hP hS hL kk => ?_)⟩
          show W p l e R s m args below meth c H locs 0 0 Q (F0 m _ la (.int (Int32.ofInt i0) :: kc ad nz (.inr (.inl (a0, j0))) :: List.map (kc ad nz) _))
          rw [kc_r (by omega)]
          refine ald_ref hx hb hK hP q t0 (by rfl) (by rw [wl_get hq, enc_refs hk]) ht0 (i32_in hi hin) hd ?_
          rw [i32_nt hi, if_pos hlt]
          rw [List.map_cons, show kc ad nz (.inr (.inl (rf a0 0, i0.toNat))) = .ref (ad (rf a0 0) i0.toNat) from kc_r (by omega)] at kk
          exact kk
        · exact absurd hk (kdS a0 h1 h2).2.2.2.2.1
      · cases h
    · cases h
  · cases h
theorem so_iast (C : Cx p s m args c M dC dI ad nz Aa tys prs A) (hG : Gd prs ls st σ) (hd : decode M.2.2.1 pc = .ok (.iastore, 1)) (h : sIast (pc, ls, st, σ) = some (.inl (pc', ls', st', σ'))) :
    Gd prs ls' st' σ' ∧ Nx p l e R s m args below meth c Q dC dI ad nz Aa prs A pc ls st σ pc' ls' st' σ' := by
  obtain ⟨hx, hb, hml, hts, hown, hK, hD, hSF, hz, hpo, hto⟩ := C
  unfold sIast at h
  split at h
  · rename_i pc0 ls0 v0 i0 a0 j0 st0 s0 heq
    cases heq
    have hv : r32 v0 := hG.2.1.hd
    have hi : r32 i0 := hG.2.1.tl.hd
    have hV : (a0, j0) ∈ prs ∨ (52 ≤ a0 ∧ a0 ≤ 61 ∧ j0 = 0) := hG.2.1.tl.tl.hd
    have hT := hG.2.1.tl.tl.tl
    split at h
    · rename_i hw hk
      have hw := Nat.le_of_ble_eq_true hw
      split at h
      · rename_i hin
        cases h
        have hm := hV.resolve_right (fun q => by omega)
        obtain ⟨q, hq⟩ := cell_at hm
        obtain ⟨t0, ht0⟩ := hto a0 j0 hm (by omega)
        rw [hk] at ht0
        refine ⟨⟨hG.1, hT, okS_up hG.2.2 (Or.inl hv)⟩, fun H locs la hP hS hL kk => ?_⟩
        show W p l e R s m args below meth c H locs 0 0 Q (F0 m _ la (.int (Int32.ofInt v0) :: .int (Int32.ofInt i0) :: kc ad nz (.inr (.inl (a0, j0))) :: List.map (kc ad nz) _))
        rw [kc_r (by omega)]
        refine va_iast hx hb hK hP (wl_D σ hD) hS q t0 (by rw [wl_get hq, enc_int hk]) ht0 (i32_in hi hin) hd (fun H1 locs1 hP1 hD1 hS1 => kk H1 locs1 la ?_ hS1 hL)
        rw [i32_nt hi, ← enc_up_int hk, wl_set hpo.1 hq up_ne] at hP1
        exact hP1
      · cases h
    · cases h
  · cases h
theorem nar_z {v : Int} (h : 0 ≤ v ∧ v ≤ 1) : vp_nar .boolean (Int32.ofInt v) = Int32.ofInt v := by
  have hx : v = 0 ∨ v = 1 := by omega
  rcases hx with rfl | rfl <;> decide
theorem so_bast (C : Cx p s m args c M dC dI ad nz Aa tys prs A) (hG : Gd prs ls st σ) (hd : decode M.2.2.1 pc = .ok (.bastore, 1)) (h : sBast (pc, ls, st, σ) = some (.inl (pc', ls', st', σ'))) :
    Gd prs ls' st' σ' ∧ Nx p l e R s m args below meth c Q dC dI ad nz Aa prs A pc ls st σ pc' ls' st' σ' := by
  obtain ⟨hx, hb, hml, hts, hown, hK, hD, hSF, hz, hpo, hto⟩ := C
  unfold sBast at h
  split at h
  · rename_i pc0 ls0 v0 i0 a0 j0 st0 s0 heq
    cases heq
    have hv : r32 v0 := hG.2.1.hd
    have hi : r32 i0 := hG.2.1.tl.hd
    have hV : (a0, j0) ∈ prs ∨ (52 ≤ a0 ∧ a0 ≤ 61 ∧ j0 = 0) := hG.2.1.tl.tl.hd
    have hT := hG.2.1.tl.tl.tl
    split at h
    · rename_i hw hk
      have hw := Nat.le_of_ble_eq_true hw
      split at h
      · rename_i h01
        split at h
        · rename_i hin
          cases h
          have hm := hV.resolve_right (fun q => by omega)
          obtain ⟨q, hq⟩ := cell_at hm
          obtain ⟨t0, ht0⟩ := hto a0 j0 hm (by omega)
          rw [hk] at ht0
          refine ⟨⟨hG.1, hT, okS_up hG.2.2 (Or.inl hv)⟩, fun H locs la hP hS hL kk => ?_⟩
          show W p l e R s m args below meth c H locs 0 0 Q (F0 m _ la (.int (Int32.ofInt v0) :: .int (Int32.ofInt i0) :: kc ad nz (.inr (.inl (a0, j0))) :: List.map (kc ad nz) _))
          rw [kc_r (by omega)]
          refine va_zast hx hb hK hP (wl_D σ hD) hS q t0 (by rw [wl_get hq, enc_bool hk]) ht0 (i32_in hi hin) hd (fun H1 locs1 hP1 hD1 hS1 => kk H1 locs1 la ?_ hS1 hL)
          rw [i32_nt hi, nar_z h01, ← enc_up_bool hk, wl_set hpo.1 hq up_ne] at hP1
          exact hP1
        · cases h
      · cases h
    · cases h
  · cases h
theorem ln_ok : ∀ q, r32 (ln q : Int) := by
  intro q
  have h : ∀ v ∈ lnT, v ≤ 1000 := by decide +kernel
  have h0 : ln q ≤ 1000 := by
    unfold ln
    rw [List.getD_eq_getElem?_getD]
    cases h1 : lnT[q]? with
    | none => simp
    | some v => exact h v (List.mem_of_getElem? h1)
  constructor <;> omega
theorem so_alen (C : Cx p s m args c M dC dI ad nz Aa tys prs A) (hG : Gd prs ls st σ) (hd : decode M.2.2.1 pc = .ok (.arraylength, 1)) (h : sAlen (pc, ls, st, σ) = some (.inl (pc', ls', st', σ'))) :
    Gd prs ls' st' σ' ∧ Nx p l e R s m args below meth c Q dC dI ad nz Aa prs A pc ls st σ pc' ls' st' σ' := by
  obtain ⟨hx, hb, hml, hts, hown, hK, hD, hSF, hz, hpo, hto⟩ := C
  unfold sAlen at h
  split at h
  · rename_i pc0 ls0 a0 j0 st0 s0 heq
    cases heq
    have hV : (a0, j0) ∈ prs ∨ (52 ≤ a0 ∧ a0 ≤ 61 ∧ j0 = 0) := hG.2.1.hd
    have hT := hG.2.1.tl
    split at h
    · rename_i hk
      cases h
      refine ⟨⟨hG.1, okT.cons (ln_ok _) hT, hG.2.2⟩, nx_row (fun H locs la hP hS hL kk => ?_)⟩
      show W p l e R s m args below meth c H locs 0 0 Q (F0 m _ la (kc ad nz (.inr (.inl (a0, j0))) :: List.map (kc ad nz) _))
      have e3 : Int32.ofNat (ln a0) = Int32.ofInt (ln a0 : Int) := by rw [Int32.ofInt_eq_ofNat]
      rcases hV with hm | ⟨h1, h2, h3⟩
      · have hp := hpo.2 a0 j0 hm
        obtain ⟨q, hq⟩ := cell_at hm
        obtain ⟨t0, ht0⟩ := hto a0 j0 hm (by omega)
        rw [hk] at ht0
        rw [kc_r (by omega)]
        exact va_alen hx hb hK hP q t0 (by rw [wl_get hq, enc_int hk]) ht0 e3 hd kk
      · have hs := (kdS a0 h1 h2).1 hk
        subst h3
        rw [kc_r (by omega)]
        exact va_tlen hx hb (hSF.2.1 a0 hs.1 hs.2) hS e3 hd kk
    · rename_i hk
      cases h
      refine ⟨⟨hG.1, okT.cons (ln_ok _) hT, hG.2.2⟩, nx_row (fun H locs la hP hS hL kk => ?_)⟩
      show W p l e R s m args below meth c H locs 0 0 Q (F0 m _ la (kc ad nz (.inr (.inl (a0, j0))) :: List.map (kc ad nz) _))
      have e3 : Int32.ofNat (ln a0) = Int32.ofInt (ln a0 : Int) := by rw [Int32.ofInt_eq_ofNat]
      rcases hV with hm | ⟨h1, h2, h3⟩
      · have hp := hpo.2 a0 j0 hm
        exfalso
        omega
      · have hs := (kdS a0 h1 h2).2.1 hk
        subst h3
        rw [kc_r (by omega)]
        exact va_tlen hx hb (hSF.2.2.1 a0 hs.1 hs.2) hS e3 hd kk
    · cases h
  · cases h
end SN
