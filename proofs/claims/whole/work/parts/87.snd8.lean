/-! THE MACHINE IS SOUND, 8: statics, constants, arraycopy, Math; every step -/
theorem gs_3_11 : Cond.fieldLink (RO 3) 11 "OtherSidesPump$Kinds" "ABOVE" "[I" ∈ gws := gws_4 160 (by decide +kernel) (by decide +kernel)
theorem gs_8_81 : Cond.fieldLink (RO 8) 81 "OtherSidesPump" "HIGHEST" "[I" ∈ gws := gws_2 215 (by decide +kernel) (by decide +kernel)
theorem gs_8_246 : Cond.fieldLink (RO 8) 246 "OtherSidesPump" "SOUGHT" "[I" ∈ gws := gws_4 30 (by decide +kernel) (by decide +kernel)
theorem gs_20_38 : Cond.fieldLink (RO 20) 38 "java/lang/String" "COMPACT_STRINGS" "Z" ∈ gws := gws_1 227 (by decide +kernel) (by decide +kernel)
theorem gs_20_1053 : Cond.fieldLink (RO 20) 1053 "jdk/internal/util/Preconditions" "SIOOBE_FORMATTER" "Ljava/util/function/BiFunction;" ∈ gws := gws_2 3 (by decide +kernel) (by decide +kernel)
theorem gtl_cases {o i : Nat} {v : PV} (h : gtl o i = some v) : (o = 0 ∧ i = 73 ∧ v = vr 52 0) ∨ (o = 1 ∧ i = 36 ∧ v = vr 52 0) ∨ (o = 3 ∧ i = 11 ∧ v = vr 54 0) ∨ (o = 8 ∧ i = 81 ∧ v = vr 52 0) ∨ (o = 8 ∧ i = 246 ∧ v = vr 53 0) ∨ (o = 20 ∧ i = 38 ∧ v = vi 1) ∨ (o = 20 ∧ i = 1053 ∧ v = vr 61 0) := by
  have hm := look_mem h
  by_cases h0 : o = 0 ∨ o = 1 ∨ o = 3 ∨ o = 8 ∨ o = 20
  · rcases h0 with rfl | rfl | rfl | rfl | rfl <;> simp only [gtlT, List.mem_cons, List.not_mem_nil, or_false, Prod.mk.injEq] at hm
    · exact Or.inl ⟨rfl, hm⟩
    · exact Or.inr (Or.inl ⟨rfl, hm⟩)
    · exact Or.inr (Or.inr (Or.inl ⟨rfl, hm⟩))
    · rcases hm with hm | hm
      · exact Or.inr (Or.inr (Or.inr (Or.inl ⟨rfl, hm⟩)))
      · exact Or.inr (Or.inr (Or.inr (Or.inr (Or.inl ⟨rfl, hm⟩))))
    · rcases hm with hm | hm
      · exact Or.inr (Or.inr (Or.inr (Or.inr (Or.inr (Or.inl ⟨rfl, hm⟩)))))
      · exact Or.inr (Or.inr (Or.inr (Or.inr (Or.inr (Or.inr ⟨rfl, hm⟩)))))
  · exfalso
    have e : gtlT o = [] := by
      unfold gtlT
      split <;> first | rfl | (exfalso; apply h0; decide)
    rw [e] at hm
    cases hm
theorem lsl_cases {o i q : Nat} (h : lsl o i = some q) : (o = 8 ∧ i = 64 ∧ q = 55) ∨ (o = 4 ∧ i = 109 ∧ q = 57) ∨ (o = 4 ∧ i = 115 ∧ q = 56) := by
  have hm := look_mem h
  by_cases h0 : o = 4 ∨ o = 8
  · rcases h0 with rfl | rfl <;> simp only [lslT, List.mem_cons, List.not_mem_nil, or_false, Prod.mk.injEq] at hm
    · rcases hm with hm | hm
      · exact Or.inr (Or.inl ⟨rfl, hm⟩)
      · exact Or.inr (Or.inr ⟨rfl, hm⟩)
    · exact Or.inl ⟨rfl, hm⟩
  · exfalso
    have e : lslT o = [] := by
      unfold lslT
      split <;> first | rfl | (exfalso; apply h0; decide)
    rw [e] at hm
    cases hm
theorem ac_6_22 : Cond.methodLink (RO 6) 22 Lib.Math.min.name ∈ gws := gws_4 60 (by decide +kernel) (by decide +kernel)
theorem ac_6_28 : Cond.methodLink (RO 6) 28 Lib.Math.max.name ∈ gws := gws_4 61 (by decide +kernel) (by decide +kernel)
theorem ac_6_39 : Cond.methodLink (RO 6) 39 arraycopyName ∈ gws := gws_4 145 (by decide +kernel) (by decide +kernel)
theorem ac_7_102 : Cond.methodLink (RO 7) 102 Lib.Math.max.name ∈ gws := gws_3 38 (by decide +kernel) (by decide +kernel)
theorem ac_7_156 : Cond.methodLink (RO 7) 156 Lib.Math.min.name ∈ gws := gws_3 37 (by decide +kernel) (by decide +kernel)
theorem ac_21_38 : Cond.methodLink (RO 21) 38 Lib.Math.min.name ∈ gws := gws_2 83 (by decide +kernel) (by decide +kernel)
theorem ac_21_92 : Cond.methodLink (RO 21) 92 Lib.Math.max.name ∈ gws := gws_2 80 (by decide +kernel) (by decide +kernel)
theorem acl_ok {o i w : Nat} (h : acl o i = some w) : (w = 0 ∧ Cond.methodLink (RO o) i arraycopyName ∈ gws) ∨ (w = 1 ∧ Cond.methodLink (RO o) i Lib.Math.max.name ∈ gws) ∨ (w = 2 ∧ Cond.methodLink (RO o) i Lib.Math.min.name ∈ gws) := by
  have hm := look_mem h
  by_cases h0 : o = 6 ∨ o = 7 ∨ o = 21
  · rcases h0 with rfl | rfl | rfl <;> simp only [aclT, List.mem_cons, List.not_mem_nil, or_false, Prod.mk.injEq] at hm
    · rcases hm with ⟨rfl, rfl⟩ | ⟨rfl, rfl⟩ | ⟨rfl, rfl⟩
      · exact Or.inr (Or.inr ⟨rfl, ac_6_22⟩)
      · exact Or.inr (Or.inl ⟨rfl, ac_6_28⟩)
      · exact Or.inl ⟨rfl, ac_6_39⟩
    · rcases hm with ⟨rfl, rfl⟩ | ⟨rfl, rfl⟩
      · exact Or.inr (Or.inl ⟨rfl, ac_7_102⟩)
      · exact Or.inr (Or.inr ⟨rfl, ac_7_156⟩)
    · rcases hm with ⟨rfl, rfl⟩ | ⟨rfl, rfl⟩
      · exact Or.inr (Or.inr ⟨rfl, ac_21_38⟩)
      · exact Or.inr (Or.inl ⟨rfl, ac_21_92⟩)
  · exfalso
    have e : aclT o = [] := by
      unfold aclT
      split <;> first | rfl | (exfalso; apply h0; decide)
    rw [e] at hm
    cases hm
theorem w_cpn : Cond.native arraycopyName ∈ gws := gws_4 147 (by decide +kernel) (by decide +kernel)
theorem w_cps : Cond.static arraycopyName ∈ gws := gws_4 146 (by decide +kernel) (by decide +kernel)
theorem w_cpi : Cond.initialized "java/lang/System" ∈ gws := gws_1 17 (by decide +kernel) (by decide +kernel)
theorem w_mxs : Cond.static Lib.Math.max.name ∈ gws := gws_2 81 (by decide +kernel) (by decide +kernel)
theorem w_mxc : Cond.code Lib.Math.max.name Lib.Math.max.code 2 (some .int) ∈ gws := gws_2 82 (by decide +kernel) (by decide +kernel)
theorem w_mns : Cond.static Lib.Math.min.name ∈ gws := gws_2 84 (by decide +kernel) (by decide +kernel)
theorem w_mnc : Cond.code Lib.Math.min.name Lib.Math.min.code 2 (some .int) ∈ gws := gws_2 85 (by decide +kernel) (by decide +kernel)
theorem w_mti : Cond.initialized "java/lang/Math" ∈ gws := gws_1 13 (by decide +kernel) (by decide +kernel)
section SN
variable {p : Program} {l : Launch} {e : Env} {R : Room} {s : State} {m : MethodId} {args : Array Value} {below : List Frame} {meth : Method} {c : Code} {Q : State → Prop}
variable {dC : Nat → ClassId} {dI : Nat → Nat → Nat} {ad : Nat → Nat → Nat} {nz : Value} {Aa : Nat → ClassId} {tys : List (ClassId × FieldType)} {prs : List (Nat × Nat)} {A : Nat → Prop} {M : Md}
variable {pc pc' : Nat} {ls ls' st st' : List PV} {σ σ' : Sg} {len : Nat}
theorem so_gets {idx : Nat} {v : PV} (C : Cx p s m args c M dC dI ad nz Aa tys prs A) (hG : Gd prs ls st σ) (hd : decode M.2.2.1 pc = .ok (.getstatic idx, 3)) (hv : gtl M.1 idx = some v) (h : sPush v 3 (pc, ls, st, σ) = some (.inl (pc', ls', st', σ'))) :
    Gd prs ls' st' σ' ∧ Nx p l e R s m args below meth c Q dC dI ad nz Aa prs A pc ls st σ pc' ls' st' σ' := by
  obtain ⟨hx, hb, hml, hts, hown, hK, hD, hSF, hz, hpo, hto⟩ := C
  obtain ⟨⟨z1, z2, z3, z4, z5⟩, -, -, -, -, n1, n2⟩ := hSF
  rcases gtl_cases hv with ⟨e1, rfl, rfl⟩ | ⟨e1, rfl, rfl⟩ | ⟨e1, rfl, rfl⟩ | ⟨e1, rfl, rfl⟩ | ⟨e1, rfl, rfl⟩ | ⟨e1, rfl, rfl⟩ | ⟨e1, rfl, rfl⟩ <;> rw [e1] at hown
  · exact so_push hG h (Or.inr ⟨by decide, by decide, rfl⟩) (fun H locs la rest hS k => va_getsN hx hb z1 hS hown (n2.use rfl) (fun _ h9 => h9) hd k)
  · exact so_push hG h (Or.inr ⟨by decide, by decide, rfl⟩) (fun H locs la rest hS k => va_getsN hx hb z1 hS hown (n1.use rfl) (fun _ h9 => h9) hd k)
  · exact so_push hG h (Or.inr ⟨by decide, by decide, rfl⟩) (fun H locs la rest hS k => va_gets hx hb z3 hS hown (hts _ gs_3_11) (fun _ h9 => h9) hd k)
  · exact so_push hG h (Or.inr ⟨by decide, by decide, rfl⟩) (fun H locs la rest hS k => va_gets hx hb z1 hS hown (hts _ gs_8_81) (fun _ h9 => h9) hd k)
  · exact so_push hG h (Or.inr ⟨by decide, by decide, rfl⟩) (fun H locs la rest hS k => va_gets hx hb z2 hS hown (hts _ gs_8_246) (fun _ h9 => h9) hd k)
  · exact so_push hG h (by constructor <;> decide) (fun H locs la rest hS k => va_gets hx hb z4 hS hown (hts _ gs_20_38) (fun _ h9 => h9) hd k)
  · exact so_push hG h (Or.inr ⟨by decide, by decide, rfl⟩) (fun H locs la rest hS k => va_gets hx hb z5 hS hown (hts _ gs_20_1053) (fun _ h9 => h9) hd k)
theorem so_ldc {idx : Nat} (C : Cx p s m args c M dC dI ad nz Aa tys prs A) (hG : Gd prs ls st σ) (hd : decode M.2.2.1 pc = .ok (.ldc idx, 2)) (h : sCon M.1 idx 2 (pc, ls, st, σ) = some (.inl (pc', ls', st', σ'))) :
    Gd prs ls' st' σ' ∧ Nx p l e R s m args below meth c Q dC dI ad nz Aa prs A pc ls st σ pc' ls' st' σ' := by
  obtain ⟨hx, hb, hml, hts, hown, hK, hD, hSF, hz, hpo, hto⟩ := C
  unfold sCon at h
  split at h
  · rename_i n0 hn0
    have hc := lcl_ok hn0
    exact so_push hG h hc.2 (fun H locs la rest hS k => lv_ldc hx hb hown (hts _ hc.1) hd k)
  · split at h
    · rename_i q0 hq0
      obtain ⟨-, -, -, -, ⟨k1, k2, k3⟩, -⟩ := hSF
      rcases lsl_cases hq0 with ⟨e1, rfl, rfl⟩ | ⟨e1, rfl, rfl⟩ | ⟨e1, rfl, rfl⟩ <;> rw [e1] at hown
      · exact so_push hG h (Or.inr ⟨by decide, by decide, rfl⟩) (fun H locs la rest hS k => va_ldcS hx hb hown k1 hd k)
      · exact so_push hG h (Or.inr ⟨by decide, by decide, rfl⟩) (fun H locs la rest hS k => va_ldcS hx hb hown k3 hd k)
      · exact so_push hG h (Or.inr ⟨by decide, by decide, rfl⟩) (fun H locs la rest hS k => va_ldcS hx hb hown k2 hd k)
    · cases h
theorem lcl_big {o i : Nat} (h : lcl o i = none) (hi : 255 < i) : lsl o i = none := by
  cases hs : lsl o i with
  | none => rfl
  | some q =>
    rcases lsl_cases hs with ⟨-, e, -⟩ | ⟨-, e, -⟩ | ⟨-, e, -⟩ <;> omega
theorem so_cpy (C : Cx p s m args c M dC dI ad nz Aa tys prs A) (hR : 1 ≤ R.frames ∧ 100 ≤ R.locals) {idx : Nat} (hl : Cond.methodLink (RO M.1) idx arraycopyName ∈ gws) (hG : Gd prs ls st σ) (hls : M.2.2.2.1 = ls.length) (hd : decode M.2.2.1 pc = .ok (.invokestatic idx, 3)) (h : sCopy (pc, ls, st, σ) = some (.inl (pc', ls', st', σ'))) :
    Gd prs ls' st' σ' ∧ Nx p l e R s m args below meth c Q dC dI ad nz Aa prs A pc ls st σ pc' ls' st' σ' := by
  obtain ⟨hx, hb, hml, hts, hown, hK, hD, hSF, hz, hpo, hto⟩ := C
  unfold sCopy at h
  split at h
  · rename_i pc0 ls0 n0 dp a2 j2 sp a0 j0 st0 s0 heq
    cases heq
    have hn : r32 n0 := hG.2.1.hd
    have hdp : r32 dp := hG.2.1.tl.hd
    have hV2 : (a2, j2) ∈ prs ∨ (52 ≤ a2 ∧ a2 ≤ 61 ∧ j2 = 0) := hG.2.1.tl.tl.hd
    have hsp : r32 sp := hG.2.1.tl.tl.tl.hd
    have hV : (a0, j0) ∈ prs ∨ (52 ≤ a0 ∧ a0 ≤ 61 ∧ j0 = 0) := hG.2.1.tl.tl.tl.tl.hd
    have hT := hG.2.1.tl.tl.tl.tl.tl
    split at h
    · rename_i hw hw2 hk hk2 hcat
      have hw := Nat.le_of_ble_eq_true hw
      have hw2 := Nat.le_of_ble_eq_true hw2
      have hcat := Nat.le_of_ble_eq_true hcat
      split at h
      · rename_i hin
        cases h
        have hm := hV.resolve_right (fun q => by omega)
        have hm2 := hV2.resolve_right (fun q => by omega)
        obtain ⟨q, hq⟩ := cell_at hm
        obtain ⟨q2, hq2⟩ := cell_at hm2
        obtain ⟨t0, ht0⟩ := hto a0 j0 hm (by omega)
        obtain ⟨t2, ht2⟩ := hto a2 j2 hm2 (by omega)
        rw [hk] at ht0
        rw [hk2] at ht2
        refine ⟨⟨hG.1, hT, ?_⟩, fun H locs la hP hS hL kk => ?_⟩
        · intro c' j' i'
          unfold cpyS
          split
          · rename_i hcc
            rcases hG.2.2 a0 j0 (sp.toNat + (i' - dp.toNat)) with z | ⟨z1, -, -⟩
            · exact Or.inl z
            · omega
          · exact hG.2.2 c' j' i'
        · show W p l e R s m args below meth c H locs 0 0 Q (F0 m _ la (.int (Int32.ofInt n0) :: .int (Int32.ofInt dp) :: kc ad nz (.inr (.inl (a2, j2))) :: .int (Int32.ofInt sp) :: kc ad nz (.inr (.inl (a0, j0))) :: List.map (kc ad nz) _))
          rw [kc_r (by omega), kc_r (by omega)]
          have z0 : r32 0 := by constructor <;> omega
          refine va_copyi (ty := .int) hx hb (by rw [hml, hls]; exact hL.1.symm) hown (hts _ hl) (hts _ w_cpn) (hts _ w_cps) (hts _ w_cpi) hK hP (wl_D σ hD) hS q q2 t0 t2 (by rw [wl_get hq, enc_int hk]) (by rw [wl_get hq2, enc_int hk2]) ht0 ht2 rfl (fun z => absurd ((i32_lt hsp z0).mp z) (by omega)) (fun z => absurd ((i32_lt hdp z0).mp z) (by omega)) (fun z => absurd ((i32_lt hn z0).mp z) (by omega)) (by rw [i32_nt hsp, i32_nt hn]; omega) (by rw [i32_nt hdp, i32_nt hn]; omega) (fun _ _ => rfl) hR.1 (by rw [kc_cats hz]; show _ + (5 + 2 + 11) ≤ _; omega) hd (fun H1 locs1 hP1 hD1 hS1 => kk H1 locs1 la ?_ hS1 hL)
          rw [i32_nt hsp, i32_nt hdp, i32_nt hn] at hP1
          have e5 : enc ad Aa (cpyS σ a0 j0 a2 j2 sp.toNat dp.toNat n0.toNat) a2 j2 = .inl (Aa 0, ln a2, .inl (va_cpy (fun i => Int32.ofInt (σ a0 j0 i)) (fun i => Int32.ofInt (σ a2 j2 i)) sp.toNat dp.toNat n0.toNat)) := by
            rw [enc_int hk2]
            congr 4
            funext k0
            unfold cpyS va_cpy
            by_cases hc : dp.toNat ≤ k0 ∧ k0 < dp.toNat + n0.toNat
            · rw [if_pos ⟨rfl, rfl, hc.1, hc.2⟩, if_pos hc]
            · rw [if_neg (fun z => hc ⟨z.2.2.1, z.2.2.2⟩), if_neg hc]
          rw [← e5, wl_set hpo.1 hq2] at hP1
          · exact hP1
          · intro c' j' hne
            funext i'
            unfold cpyS
            rw [if_neg]
            rintro ⟨z1, z2, -⟩
            exact hne (by rw [z1, z2])
      · cases h
    · cases h
  · cases h
theorem mth_inv {f : Int → Int → Int} {o : Out} (h : sMath f (pc, ls, st, σ) = some o) : ∃ a b st0, st = .inl b :: .inl a :: st0 ∧ catS st0 ≤ 8 ∧ o = .inl (pc + 3, ls, .inl (f a b) :: st0, σ) := by
  unfold sMath at h
  split at h
  · rename_i heq
    cases heq
    split at h
    · rename_i hc
      cases h
      exact ⟨_, _, _, rfl, Nat.le_of_ble_eq_true hc, rfl⟩
    · cases h
  · cases h
theorem so_max (C : Cx p s m args c M dC dI ad nz Aa tys prs A) (hR : 1 ≤ R.frames ∧ 100 ≤ R.locals) {idx : Nat} (hl : Cond.methodLink (RO M.1) idx Lib.Math.max.name ∈ gws) (hG : Gd prs ls st σ) (hls : M.2.2.2.1 = ls.length) (hd : decode M.2.2.1 pc = .ok (.invokestatic idx, 3)) (h : sMath wmax (pc, ls, st, σ) = some (.inl (pc', ls', st', σ'))) :
    Gd prs ls' st' σ' ∧ Nx p l e R s m args below meth c Q dC dI ad nz Aa prs A pc ls st σ pc' ls' st' σ' := by
  obtain ⟨hx, hb, hml, hts, hown, hK, hD, hSF, hz, hpo, hto⟩ := C
  obtain ⟨a, b, st0, rfl, hcat, e⟩ := mth_inv h
  cases e
  have hb0 : r32 b := hG.2.1.hd
  have ha0 : r32 a := hG.2.1.tl.hd
  refine ⟨⟨hG.1, okT.cons (by show r32 (wmax a b); unfold wmax; split <;> assumption) hG.2.1.tl.tl, hG.2.2⟩, nx_row (fun H locs la _ _ hL k => ?_)⟩
  refine va_mmax hx hb (by rw [hml, hls]; exact hL.1.symm) hown (hts _ hl) (hts _ w_mxs) (hts _ w_mti) (hts _ w_mxc) hR.1 (by rw [kc_cats hz]; omega) (Nat.zero_le _) (Nat.zero_le _) (x := Int32.ofInt a) (y := Int32.ofInt b) hd ?_
  have e2 : kc ad nz (.inl (wmax a b)) = .int (if Int32.ofInt a < Int32.ofInt b then Int32.ofInt b else Int32.ofInt a) := by
    show Value.int (Int32.ofInt (wmax a b)) = _
    unfold wmax
    by_cases hab : a < b
    · rw [if_pos hab, if_pos ((i32_lt ha0 hb0).mpr hab)]
    · rw [if_neg hab, if_neg (fun z => hab ((i32_lt ha0 hb0).mp z))]
  rw [List.map_cons, e2] at k
  exact k
theorem so_min (C : Cx p s m args c M dC dI ad nz Aa tys prs A) (hR : 1 ≤ R.frames ∧ 100 ≤ R.locals) {idx : Nat} (hl : Cond.methodLink (RO M.1) idx Lib.Math.min.name ∈ gws) (hG : Gd prs ls st σ) (hls : M.2.2.2.1 = ls.length) (hd : decode M.2.2.1 pc = .ok (.invokestatic idx, 3)) (h : sMath wmin (pc, ls, st, σ) = some (.inl (pc', ls', st', σ'))) :
    Gd prs ls' st' σ' ∧ Nx p l e R s m args below meth c Q dC dI ad nz Aa prs A pc ls st σ pc' ls' st' σ' := by
  obtain ⟨hx, hb, hml, hts, hown, hK, hD, hSF, hz, hpo, hto⟩ := C
  obtain ⟨a, b, st0, rfl, hcat, e⟩ := mth_inv h
  cases e
  have hb0 : r32 b := hG.2.1.hd
  have ha0 : r32 a := hG.2.1.tl.hd
  refine ⟨⟨hG.1, okT.cons (by show r32 (wmin a b); unfold wmin; split <;> assumption) hG.2.1.tl.tl, hG.2.2⟩, nx_row (fun H locs la _ _ hL k => ?_)⟩
  refine va_mmin hx hb (by rw [hml, hls]; exact hL.1.symm) hown (hts _ hl) (hts _ w_mns) (hts _ w_mti) (hts _ w_mnc) hR.1 (by rw [kc_cats hz]; omega) (Nat.zero_le _) (Nat.zero_le _) (x := Int32.ofInt a) (y := Int32.ofInt b) hd ?_
  have e2 : kc ad nz (.inl (wmin a b)) = .int (if Int32.ofInt b < Int32.ofInt a then Int32.ofInt b else Int32.ofInt a) := by
    show Value.int (Int32.ofInt (wmin a b)) = _
    unfold wmin
    by_cases hab : b < a
    · rw [if_pos hab, if_pos ((i32_lt hb0 ha0).mpr hab)]
    · rw [if_neg hab, if_neg (fun z => hab ((i32_lt hb0 ha0).mp z))]
  rw [List.map_cons, e2] at k
  exact k
/-- a switch, place by place -/
theorem so_tab {x d0 : Int} {st0 : List PV} (hx0 : r32 x) (hL0 : okL prs ls) (hT : okT prs st0) (hσ : okS σ) (d hi lo0 : Int) (offs : Array Int) (hdf : d0 = d)
    (rowI : ∀ (H : Heap) (locs : List Loc) (la : Array Slot) (off : Int) (tgt : Nat), ¬ x < lo0 → ¬ hi < x → offs[(x - lo0).toNat]? = some off → (pc : Int) + off = (tgt : Int) → W p l e R s m args below meth c H locs 0 0 Q (F0 m tgt la (st0.map (kc ad nz))) → W p l e R s m args below meth c H locs 0 0 Q (F0 m pc la (st.map (kc ad nz))))
    (rowO : ∀ (H : Heap) (locs : List Loc) (la : Array Slot) (tgt : Nat), (x < lo0 ∨ hi < x) → (pc : Int) + d = (tgt : Int) → W p l e R s m args below meth c H locs 0 0 Q (F0 m tgt la (st0.map (kc ad nz))) → W p l e R s m args below meth c H locs 0 0 Q (F0 m pc la (st.map (kc ad nz)))) :
    ∀ (os : List Int) (lo : Int), (∀ k : Nat, k < os.length → offs[((lo - lo0).toNat + k)]? = os[k]?) → lo0 ≤ lo → lo + os.length = hi + 1 → (x < lo0 ∨ lo ≤ x) → sTab (fun o => sTo pc o ls st0 σ) x d0 lo os = some (.inl (pc', ls', st', σ')) →
    Gd prs ls' st' σ' ∧ Nx p l e R s m args below meth c Q dC dI ad nz Aa prs A pc ls st σ pc' ls' st' σ' := by
  intro os
  induction os with
  | nil =>
    intro lo _ h1 h2 h3 h
    obtain ⟨t, ht, e⟩ := to_inv h
    cases e
    simp only [List.length_nil] at h2
    refine ⟨⟨hL0, hT, hσ⟩, nx_row (fun H locs la _ _ _ k => rowO H locs la _ ?_ (by rw [← hdf]; exact ht) k)⟩
    rcases h3 with h3 | h3
    · exact Or.inl h3
    · right; simp at h2; omega
  | cons o1 os ih =>
    intro lo hg h1 h2 h3 h
    unfold sTab at h
    split at h
    · rename_i hxl
      obtain ⟨t, ht, e⟩ := to_inv h
      cases e
      refine ⟨⟨hL0, hT, hσ⟩, nx_row (fun H locs la _ _ _ k => rowI H locs la o1 _ (by omega) (by simp at h2; omega) ?_ ht k)⟩
      have h5 := hg 0 (by simp)
      rw [hxl]
      simpa using h5
    · rename_i hxl
      refine ih (lo + 1) (fun k hk => ?_) (by omega) (by simp at h2 ⊢; omega) (by omega) h
      have h5 := hg (k + 1) (by simp; omega)
      rw [List.getElem?_cons_succ] at h5
      rw [← h5]
      congr 1
      omega
end SN
