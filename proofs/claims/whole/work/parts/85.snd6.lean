/-! THE MACHINE IS SOUND, 6: fields and arrays -/
section SN
variable {p : Program} {l : Launch} {e : Env} {R : Room} {s : State} {m : MethodId} {args : Array Value} {below : List Frame} {meth : Method} {c : Code} {Q : State → Prop}
variable {dC : Nat → ClassId} {dI : Nat → Nat → Nat} {ad : Nat → Nat → Nat} {nz : Value} {Aa : Nat → ClassId} {tys : List (ClassId × FieldType)} {prs : List (Nat × Nat)} {A : Nat → Prop} {M : Md}
variable {pc pc' : Nat} {ls ls' st st' : List PV} {σ σ' : Sg} {len : Nat}
/-- a field of a world's object is read -/
theorem get_w {idx a0 j0 ci kf : Nat} {rest : List Value} {H : Heap} {locs : List Loc} {la : Array Slot} (C : Cx p s m args c M dC dI ad nz Aa tys prs A) (hd : decode M.2.2.1 pc = .ok (.getfield idx, 3)) (hft : ftl M.1 idx = some (ci, kf)) (hk : kd a0 = 10 + ci) (hci : ci < 10) (hm : (a0, j0) ∈ prs) (hP : va_P (dC, dI) scl (wl ad Aa prs σ) H)
    (kk : W p l e R s m args below meth c H locs 0 0 Q (F0 m (pc + 3) la (fV ad σ a0 j0 ci kf :: rest))) : W p l e R s m args below meth c H locs 0 0 Q (F0 m pc la (.ref (ad a0 j0) :: rest)) := by
  obtain ⟨hx, hb, hml, hts, hown, hK, hD, hSF, hz, hpo, hto⟩ := C
  obtain ⟨hl, hkf⟩ := ftl_own hft hci
  obtain ⟨q, hq⟩ := cell_at hm
  have he : (wl ad Aa prs σ)[q]? = some (ad a0 j0, .inr (ci, (List.range (nF ci)).map (fV ad σ a0 j0 ci))) := by
    rw [wl_get hq, enc_obj (by omega), show kd a0 - 10 = ci by omega]
  exact va_get (D := (dC, dI)) (cl := scl) (tys := tys) (C := RO ci) (T := TF ci) (N := nF ci) (ref := (TF ci kf).1) hx hb hts (lay_ok hci) hown hK hP q he (scl_at ci hci (ne3 hkf)) kf hkf (hts _ hl) (fun _ h9 => h9) (fs_get hkf) hd kk
theorem sv_1 : ∀ a0, 55 ≤ a0 → a0 ≤ 57 → sv a0 1 = 0 ∧ rf a0 0 = a0 + 3 := by
  intro a0 h1 h2
  have hx : a0 = 55 ∨ a0 = 56 ∨ a0 = 57 := by omega
  rcases hx with rfl | rfl | rfl <;> decide
theorem so_get {idx : Nat} (C : Cx p s m args c M dC dI ad nz Aa tys prs A) (hG : Gd prs ls st σ) (hd : decode M.2.2.1 pc = .ok (.getfield idx, 3)) (h : sGet M.1 idx (pc, ls, st, σ) = some (.inl (pc', ls', st', σ'))) :
    Gd prs ls' st' σ' ∧ Nx p l e R s m args below meth c Q dC dI ad nz Aa prs A pc ls st σ pc' ls' st' σ' := by
  have C0 := C
  obtain ⟨hx, hb, hml, hts, hown, hK, hD, hSF, hz, hpo, hto⟩ := C
  unfold sGet at h
  split at h
  · rename_i pc0 ls0 a0 j0 st0 s0 heq
    cases heq
    split at h
    · rename_i ci kf hft
      have hV : (a0, j0) ∈ prs ∨ (52 ≤ a0 ∧ a0 ≤ 61 ∧ j0 = 0) := hG.2.1.hd
      have hT := hG.2.1.tl
      split at h
      · -- an int
        rename_i hbq hfk
        have hk : kd a0 = 10 + ci := Nat.eq_of_beq_eq_true hbq
        cases h
        rcases hV with hm | ⟨h1, h2, h3⟩
        · have hp := hpo.2 a0 j0 hm
          have hci : ci < 10 := by omega
          have hr : r32 (σ a0 j0 kf) := by
            rcases hG.2.2 a0 j0 kf with q | ⟨q1, q2, -⟩
            · exact q
            · rw [show ci = 9 by omega] at hfk
              omega
          refine ⟨⟨hG.1, okT.cons (by show r32 _; rw [rd_w hp.1]; exact hr) hT, hG.2.2⟩, nx_row (fun H locs la hP hS hL kk => ?_)⟩
          show W p l e R s m args below meth c H locs 0 0 Q (F0 m _ la (kc ad nz (.inr (.inl (a0, j0))) :: List.map (kc ad nz) _))
          rw [kc_r (by omega)]
          refine get_w C0 hd hft hk hci hm hP ?_
          rw [fV_i (Or.inl hfk), ← rd_w (σ := σ) (j0 := j0) (i := kf) hp.1]
          exact kk
        · have hs := (kdS a0 h1 h2).2.2.2.2.2 (by omega)
          obtain ⟨e1, e2⟩ := ftl_str hft (by omega)
          subst e1
          subst h3
          rcases e2 with ⟨e2, -⟩ | ⟨e2, hl⟩
          · subst e2
            exact absurd hfk (by decide)
          · subst e2
            refine ⟨⟨hG.1, okT.cons (by show r32 _; rw [rd_s h1]; exact sv_ok _ _) hT, hG.2.2⟩, nx_row (fun H locs la hP hS hL kk => ?_)⟩
            show W p l e R s m args below meth c H locs 0 0 Q (F0 m _ la (kc ad nz (.inr (.inl (a0, 0))) :: List.map (kc ad nz) _))
            rw [kc_r (by omega)]
            refine vk_getf hx hb (hSF.2.2.2.1 a0 hs.2.1 hs.2.2).2.1 hS hown (hts _ hl) (fun _ h9 => h9) hd ?_
            have e3 : kc ad nz (.inl (rd σ a0 0 1)) = .int 0 := by
              rw [rd_s h1, (sv_1 a0 hs.2.1 hs.2.2).1]
              rfl
            rw [← e3]
            exact kk
      · -- a boolean
        rename_i hbq hfk
        have hk : kd a0 = 10 + ci := Nat.eq_of_beq_eq_true hbq
        cases h
        rcases hV with hm | ⟨h1, h2, h3⟩
        · have hp := hpo.2 a0 j0 hm
          have hci : ci < 10 := by omega
          have hr : r32 (σ a0 j0 kf) := by
            rcases hG.2.2 a0 j0 kf with q | ⟨q1, q2, -⟩
            · exact q
            · rw [show ci = 9 by omega] at hfk
              omega
          refine ⟨⟨hG.1, okT.cons (by show r32 _; rw [rd_w hp.1]; exact hr) hT, hG.2.2⟩, nx_row (fun H locs la hP hS hL kk => ?_)⟩
          show W p l e R s m args below meth c H locs 0 0 Q (F0 m _ la (kc ad nz (.inr (.inl (a0, j0))) :: List.map (kc ad nz) _))
          rw [kc_r (by omega)]
          refine get_w C0 hd hft hk hci hm hP ?_
          rw [fV_i (Or.inr hfk), ← rd_w (σ := σ) (j0 := j0) (i := kf) hp.1]
          exact kk
        · exfalso
          have hs := (kdS a0 h1 h2).2.2.2.2.2 (by omega)
          obtain ⟨e1, e2⟩ := ftl_str hft (by omega)
          subst e1
          rcases e2 with ⟨e2, -⟩ | ⟨e2, -⟩ <;> (subst e2; exact absurd hfk (by decide))
      · -- a long
        rename_i hbq hfk
        have hk : kd a0 = 10 + ci := Nat.eq_of_beq_eq_true hbq
        cases h
        rcases hV with hm | ⟨h1, h2, h3⟩
        · have hp := hpo.2 a0 j0 hm
          have hci : ci < 10 := by omega
          have hr : r64 (σ a0 j0 kf) := by
            rcases hG.2.2 a0 j0 kf with q | ⟨-, -, q⟩
            · exact r32_64 q
            · exact q
          refine ⟨⟨hG.1, okT.cons (by show r64 _; rw [rd_w hp.1]; exact hr) hT, hG.2.2⟩, nx_row (fun H locs la hP hS hL kk => ?_)⟩
          show W p l e R s m args below meth c H locs 0 0 Q (F0 m _ la (kc ad nz (.inr (.inl (a0, j0))) :: List.map (kc ad nz) _))
          rw [kc_r (by omega)]
          refine get_w C0 hd hft hk hci hm hP ?_
          rw [fV_l hfk, ← rd_w (σ := σ) (j0 := j0) (i := kf) hp.1]
          exact kk
        · exfalso
          have hs := (kdS a0 h1 h2).2.2.2.2.2 (by omega)
          obtain ⟨e1, e2⟩ := ftl_str hft (by omega)
          subst e1
          rcases e2 with ⟨e2, -⟩ | ⟨e2, -⟩ <;> (subst e2; exact absurd hfk (by decide))
      · -- a reference
        rename_i hbq hfk
        have hk : kd a0 = 10 + ci := Nat.eq_of_beq_eq_true hbq
        cases h
        rcases hV with hm | ⟨h1, h2, h3⟩
        · have hp := hpo.2 a0 j0 hm
          have hci : ci < 10 := by omega
          have hkf := (ftl_own hft hci).2
          have hm2 : (rf a0 kf, j0) ∈ prs := hp.2.2.2.2 (by omega) kf (by rw [show kd a0 - 10 = ci by omega]; exact hkf) (by rw [show kd a0 - 10 = ci by omega]; exact hfk)
          have hp2 := hpo.2 _ _ hm2
          refine ⟨⟨hG.1, okT.cons (Or.inl hm2) hT, hG.2.2⟩, nx_row (fun H locs la hP hS hL kk => ?_)⟩
          show W p l e R s m args below meth c H locs 0 0 Q (F0 m _ la (kc ad nz (.inr (.inl (a0, j0))) :: List.map (kc ad nz) _))
          rw [kc_r (by omega)]
          refine get_w C0 hd hft hk hci hm hP ?_
          rw [fV_r hfk, ← kc_r (ad := ad) (nz := nz) (show rf a0 kf ≠ 61 by omega)]
          exact kk
        · have hs := (kdS a0 h1 h2).2.2.2.2.2 (by omega)
          obtain ⟨e1, e2⟩ := ftl_str hft (by omega)
          subst e1
          subst h3
          rcases e2 with ⟨e2, hl⟩ | ⟨e2, -⟩
          · subst e2
            have hrf := (sv_1 a0 hs.2.1 hs.2.2).2
            refine ⟨⟨hG.1, okT.cons (Or.inr (by show 52 ≤ rf a0 0 ∧ rf a0 0 ≤ 61 ∧ 0 = 0; rw [hrf]; omega)) hT, hG.2.2⟩, nx_row (fun H locs la hP hS hL kk => ?_)⟩
            show W p l e R s m args below meth c H locs 0 0 Q (F0 m _ la (kc ad nz (.inr (.inl (a0, 0))) :: List.map (kc ad nz) _))
            rw [kc_r (by omega)]
            refine vk_getf hx hb (hSF.2.2.2.1 a0 hs.2.1 hs.2.2).2.2 hS hown (hts _ hl) (fun _ h9 => h9) hd ?_
            have e3 : kc ad nz (.inr (.inl (rf a0 0, 0))) = .ref (ad (a0 + 3) 0) := by
              rw [kc_r (by omega), hrf]
            rw [← e3]
            exact kk
          · subst e2
            exact absurd hfk (by decide)
      · cases h
    · cases h
  · cases h
theorem fkB_0 {ci kf : Nat} (h : fkB ci kf = true) (hf : fk ci kf = 0) : (TF ci kf).2.2.2 = false ∧ tyF ci kf = .int := by
  unfold fkB at h
  rw [hf] at h
  have h : (!(TF ci kf).2.2.2 && decide (tyF ci kf = .int)) = true := h
  rw [Bool.and_eq_true, Bool.not_eq_true', decide_eq_true_eq] at h
  exact h
theorem fkB_1 {ci kf : Nat} (h : fkB ci kf = true) (hf : fk ci kf = 1) : ci = 9 ∧ (TF ci kf).2.2.2 = false ∧ tyF ci kf = .long := by
  unfold fkB at h
  rw [hf] at h
  have h : (Nat.beq ci 9 && (!(TF ci kf).2.2.2 && decide (tyF ci kf = .long))) = true := h
  rw [Bool.and_eq_true, Bool.and_eq_true, Bool.not_eq_true', decide_eq_true_eq] at h
  exact ⟨Nat.eq_of_beq_eq_true h.1, h.2⟩
theorem fkB_2 {ci kf : Nat} (h : fkB ci kf = true) (hf : fk ci kf = 2) : (TF ci kf).2.2.2 = false ∧ tyF ci kf = .boolean := by
  unfold fkB at h
  rw [hf] at h
  have h : (!(TF ci kf).2.2.2 && decide (tyF ci kf = .boolean)) = true := h
  rw [Bool.and_eq_true, Bool.not_eq_true', decide_eq_true_eq] at h
  exact h
/-- a field of a world's object is written -/
theorem put_w {idx a0 j0 ci kf : Nat} {v : Int} {w : Value} {ty : FieldType} {rest : List Value} {H : Heap} {locs : List Loc} {la : Array Slot} (C : Cx p s m args c M dC dI ad nz Aa tys prs A) (hd : decode M.2.2.1 pc = .ok (.putfield idx, 3)) (hft : ftl M.1 idx = some (ci, kf)) (hk : kd a0 = 10 + ci) (hci : ci < 10) (hm : (a0, j0) ∈ prs) (hP : va_P (dC, dI) scl (wl ad Aa prs σ) H) (hS : va_S A s.heap H locs)
    (hfin : (TF ci kf).2.2.2 = false) (hty : tyF ci kf = ty) (hn : narrow ty w = w) (hfit : fits ty w = true) (hw : fV ad (up σ a0 j0 kf v) a0 j0 ci kf = w)
    (kk : ∀ (H1 : Heap) (locs1 : List Loc), va_P (dC, dI) scl (wl ad Aa prs (up σ a0 j0 kf v)) H1 → va_S A s.heap H1 locs1 → W p l e R s m args below meth c H1 locs1 0 0 Q (F0 m (pc + 3) la rest)) : W p l e R s m args below meth c H locs 0 0 Q (F0 m pc la (w :: .ref (ad a0 j0) :: rest)) := by
  obtain ⟨hx, hb, hml, hts, hown, hK, hD, hSF, hz, hpo, hto⟩ := C
  obtain ⟨hl, hkf⟩ := ftl_own hft hci
  obtain ⟨q, hq⟩ := cell_at hm
  have he : (wl ad Aa prs σ)[q]? = some (ad a0 j0, .inr (ci, (List.range (nF ci)).map (fV ad σ a0 j0 ci))) := by
    rw [wl_get hq, enc_obj (by omega), show kd a0 - 10 = ci by omega]
  have hset : (wl ad Aa prs σ).set q (ad a0 j0, .inr (ci, ((List.range (nF ci)).map (fV ad σ a0 j0 ci)).set kf w)) = wl ad Aa prs (up σ a0 j0 kf v) := by
    rw [← wl_set (Aa := Aa) (ad := ad) (σ := σ) (σ' := up σ a0 j0 kf v) hpo.1 hq up_ne, enc_obj (σ := up σ a0 j0 kf v) (by omega), show kd a0 - 10 = ci by omega, fs_set hw]
  refine va_put (D := (dC, dI)) (cl := scl) (tys := tys) (C := RO ci) (T := TF ci) (N := nF ci) (ref := (TF ci kf).1) (ty := ty) hx hb hts (lay_ok hci) (tyF ci) (ty_ok ci hci) (nm_ok ci hci) hown hK hP (wl_D σ hD) hS q he (scl_at ci hci (ne3 hkf)) kf hkf (hts _ hl) (fun _ h9 => h9) hfin (by rw [← hty]; exact ty_ok ci hci kf hkf) hn hfit (by rw [List.length_map, List.length_range]; exact hkf) hd (fun H1 locs1 hP1 hD1 hS1 => ?_)
  rw [hset] at hP1
  exact kk H1 locs1 hP1 hS1
theorem nar_b {v : Int} (h : 0 ≤ v ∧ v ≤ 1) : narrow .boolean (.int (Int32.ofInt v)) = .int (Int32.ofInt v) ∧ fits .boolean (.int (Int32.ofInt v)) = true := by
  have hx : v = 0 ∨ v = 1 := by omega
  rcases hx with rfl | rfl <;> exact ⟨by decide, by decide⟩
theorem so_put {idx : Nat} (C : Cx p s m args c M dC dI ad nz Aa tys prs A) (hG : Gd prs ls st σ) (hd : decode M.2.2.1 pc = .ok (.putfield idx, 3)) (h : sPut M.1 idx (pc, ls, st, σ) = some (.inl (pc', ls', st', σ'))) :
    Gd prs ls' st' σ' ∧ Nx p l e R s m args below meth c Q dC dI ad nz Aa prs A pc ls st σ pc' ls' st' σ' := by
  have C0 := C
  obtain ⟨hx, hb, hml, hts, hown, hK, hD, hSF, hz, hpo, hto⟩ := C
  unfold sPut at h
  split at h
  · rename_i pc0 ls0 v a0 j0 st0 s0 heq
    cases heq
    split at h
    · rename_i ci kf hft
      have hv : r32 v := hG.2.1.hd
      have hV : (a0, j0) ∈ prs ∨ (52 ≤ a0 ∧ a0 ≤ 61 ∧ j0 = 0) := hG.2.1.tl.hd
      have hT := hG.2.1.tl.tl
      split at h
      · rename_i hw hbq hfk
        have hw := Nat.le_of_ble_eq_true hw
        have hk : kd a0 = 10 + ci := Nat.eq_of_beq_eq_true hbq
        have hm := hV.resolve_right (fun q => by omega)
        have hp := hpo.2 a0 j0 hm
        have hci : ci < 10 := by omega
        cases h
        have hb0 := fkB_0 (fk_ty ci hci kf (ftl_own hft hci).2) hfk
        refine ⟨⟨hG.1, hT, okS_up hG.2.2 (Or.inl hv)⟩, fun H locs la hP hS hL kk => ?_⟩
        show W p l e R s m args below meth c H locs 0 0 Q (F0 m _ la (.int (Int32.ofInt v) :: kc ad nz (.inr (.inl (a0, j0))) :: List.map (kc ad nz) _))
        rw [kc_r (by omega)]
        refine put_w C0 hd hft hk hci hm hP hS hb0.1 hb0.2 rfl rfl ?_ (fun H1 locs1 hP1 hS1 => kk H1 locs1 la hP1 hS1 hL)
        rw [fV_i (Or.inl hfk), up_self, if_pos rfl]
      · rename_i hw hbq hfk
        have hw := Nat.le_of_ble_eq_true hw
        have hk : kd a0 = 10 + ci := Nat.eq_of_beq_eq_true hbq
        have hm := hV.resolve_right (fun q => by omega)
        have hp := hpo.2 a0 j0 hm
        have hci : ci < 10 := by omega
        split at h
        · rename_i h01
          cases h
          have hb0 := fkB_2 (fk_ty ci hci kf (ftl_own hft hci).2) hfk
          refine ⟨⟨hG.1, hT, okS_up hG.2.2 (Or.inl hv)⟩, fun H locs la hP hS hL kk => ?_⟩
          show W p l e R s m args below meth c H locs 0 0 Q (F0 m _ la (.int (Int32.ofInt v) :: kc ad nz (.inr (.inl (a0, j0))) :: List.map (kc ad nz) _))
          rw [kc_r (by omega)]
          refine put_w C0 hd hft hk hci hm hP hS hb0.1 hb0.2 (nar_b h01).1 (nar_b h01).2 ?_ (fun H1 locs1 hP1 hS1 => kk H1 locs1 la hP1 hS1 hL)
          rw [fV_i (Or.inr hfk), up_self, if_pos rfl]
        · cases h
      · cases h
    · cases h
  · rename_i pc0 ls0 v a0 j0 st0 s0 heq
    cases heq
    split at h
    · rename_i ci kf hft
      have hv : r64 v := hG.2.1.hd
      have hV : (a0, j0) ∈ prs ∨ (52 ≤ a0 ∧ a0 ≤ 61 ∧ j0 = 0) := hG.2.1.tl.hd
      have hT := hG.2.1.tl.tl
      split at h
      · rename_i hw hbq hfk
        have hw := Nat.le_of_ble_eq_true hw
        have hk : kd a0 = 10 + ci := Nat.eq_of_beq_eq_true hbq
        have hm := hV.resolve_right (fun q => by omega)
        have hp := hpo.2 a0 j0 hm
        have hci : ci < 10 := by omega
        cases h
        have hb0 := fkB_1 (fk_ty ci hci kf (ftl_own hft hci).2) hfk
        have h9 : ci = 9 := hb0.1
        refine ⟨⟨hG.1, hT, okS_up hG.2.2 (Or.inr ⟨by omega, by rw [← h9]; exact hfk, hv⟩)⟩, fun H locs la hP hS hL kk => ?_⟩
        show W p l e R s m args below meth c H locs 0 0 Q (F0 m _ la (.long (Int64.ofInt v) :: kc ad nz (.inr (.inl (a0, j0))) :: List.map (kc ad nz) _))
        rw [kc_r (by omega)]
        refine put_w C0 hd hft hk hci hm hP hS hb0.2.1 hb0.2.2 rfl rfl ?_ (fun H1 locs1 hP1 hS1 => kk H1 locs1 la hP1 hS1 hL)
        rw [fV_l hfk, up_self, if_pos rfl]
      · cases h
    · cases h
  · cases h
end SN
