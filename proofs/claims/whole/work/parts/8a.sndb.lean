/-! THE MACHINE IS SOUND, 11: so_all -/
section SN
variable {p : Program} {l : Launch} {e : Env} {R : Room} {s : State} {m : MethodId} {args : Array Value} {below : List Frame} {meth : Method} {c : Code} {Q : State → Prop}
variable {dC : Nat → ClassId} {dI : Nat → Nat → Nat} {ad : Nat → Nat → Nat} {nz : Value} {Aa : Nat → ClassId} {tys : List (ClassId × FieldType)} {prs : List (Nat × Nat)} {A : Nat → Prop} {M : Md}
variable {pc pc' : Nat} {ls ls' st st' : List PV} {σ σ' : Sg} {len : Nat}
theorem lc_inv {o : Out} (h : sLcmp (pc, ls, st, σ) = some o) : ∃ a b st0, st = .inr (.inr b) :: .inr (.inr a) :: st0 ∧ o = .inl (pc + 1, ls, .inl (wlcmp a b) :: st0, σ) := by
  unfold sLcmp at h
  split at h
  · rename_i heq
    cases heq
    cases h
    exact ⟨_, _, _, rfl, rfl⟩
  · cases h
theorem i2l_inv {o : Out} (h : sI2l (pc, ls, st, σ) = some o) : ∃ a st0, st = .inl a :: st0 ∧ o = .inl (pc + 1, ls, .inr (.inr a) :: st0, σ) := by
  unfold sI2l at h
  split at h
  · rename_i heq
    cases heq
    cases h
    exact ⟨_, _, rfl, rfl⟩
  · cases h
theorem l2i_inv {o : Out} (h : sL2i (pc, ls, st, σ) = some o) : ∃ a st0, st = .inr (.inr a) :: st0 ∧ o = .inl (pc + 1, ls, .inl (wl2i a) :: st0, σ) := by
  unfold sL2i at h
  split at h
  · rename_i heq
    cases heq
    cases h
    exact ⟨_, _, rfl, rfl⟩
  · cases h
theorem so_pop (C : Cx p s m args c M dC dI ad nz Aa tys prs A) (hG : Gd prs ls st σ) (hd : decode M.2.2.1 pc = .ok (.pop, 1)) (h : sPop (pc, ls, st, σ) = some (.inl (pc', ls', st', σ'))) :
    Gd prs ls' st' σ' ∧ Nx p l e R s m args below meth c Q dC dI ad nz Aa prs A pc ls st σ pc' ls' st' σ' := by
  unfold sPop at h
  split at h
  · rename_i heq
    cases heq
    cases h
    exact ⟨⟨hG.1, hG.2.1.tl, hG.2.2⟩, nx_row (fun H locs la _ _ _ k => lv_pop C.1 C.2.1 hd rfl k)⟩
  · cases h
theorem so_dup (C : Cx p s m args c M dC dI ad nz Aa tys prs A) (hG : Gd prs ls st σ) (hd : decode M.2.2.1 pc = .ok (.dup, 1)) (h : sDup (pc, ls, st, σ) = some (.inl (pc', ls', st', σ'))) :
    Gd prs ls' st' σ' ∧ Nx p l e R s m args below meth c Q dC dI ad nz Aa prs A pc ls st σ pc' ls' st' σ' := by
  have hz : nz.category = 1 := C.2.2.2.2.2.2.2.2.1
  unfold sDup at h
  split at h
  · rename_i heq
    cases heq
    cases h
    exact ⟨⟨hG.1, okT.cons hG.2.1.hd hG.2.1, hG.2.2⟩, nx_row (fun H locs la _ _ _ k => lv_dup C.1 C.2.1 hd (kc_cat hz _) k)⟩
  · rename_i heq
    cases heq
    cases h
    exact ⟨⟨hG.1, okT.cons hG.2.1.hd hG.2.1, hG.2.2⟩, nx_row (fun H locs la _ _ _ k => lv_dup C.1 C.2.1 hd (kc_cat hz _) k)⟩
  · cases h
theorem so_dupx1 (C : Cx p s m args c M dC dI ad nz Aa tys prs A) (hG : Gd prs ls st σ) (hd : decode M.2.2.1 pc = .ok (.dup_x1, 1)) (h : sDupx1 (pc, ls, st, σ) = some (.inl (pc', ls', st', σ'))) :
    Gd prs ls' st' σ' ∧ Nx p l e R s m args below meth c Q dC dI ad nz Aa prs A pc ls st σ pc' ls' st' σ' := by
  have hz : nz.category = 1 := C.2.2.2.2.2.2.2.2.1
  unfold sDupx1 at h
  split at h
  · rename_i heq
    cases heq
    cases h
    exact ⟨⟨hG.1, okT.cons hG.2.1.hd (okT.cons hG.2.1.tl.hd (okT.cons hG.2.1.hd hG.2.1.tl.tl)), hG.2.2⟩, nx_row (fun H locs la _ _ _ k => lv_dup_x1 C.1 C.2.1 hd (kc_cat hz _) (kc_cat hz _) k)⟩
  · rename_i heq
    cases heq
    cases h
    exact ⟨⟨hG.1, okT.cons hG.2.1.hd (okT.cons hG.2.1.tl.hd (okT.cons hG.2.1.hd hG.2.1.tl.tl)), hG.2.2⟩, nx_row (fun H locs la _ _ _ k => lv_dup_x1 C.1 C.2.1 hd (kc_cat hz _) (kc_cat hz _) k)⟩
  · cases h
theorem so_dup2 (C : Cx p s m args c M dC dI ad nz Aa tys prs A) (hG : Gd prs ls st σ) (hd : decode M.2.2.1 pc = .ok (.dup2, 1)) (h : sDup2 (pc, ls, st, σ) = some (.inl (pc', ls', st', σ'))) :
    Gd prs ls' st' σ' ∧ Nx p l e R s m args below meth c Q dC dI ad nz Aa prs A pc ls st σ pc' ls' st' σ' := by
  have hz : nz.category = 1 := C.2.2.2.2.2.2.2.2.1
  unfold sDup2 at h
  split at h
  · rename_i heq
    cases heq
    cases h
    exact ⟨⟨hG.1, okT.cons hG.2.1.hd (okT.cons hG.2.1.tl.hd hG.2.1), hG.2.2⟩, nx_row (fun H locs la _ _ _ k => lv_dup2_11 C.1 C.2.1 hd (kc_cat hz _) (kc_cat hz _) k)⟩
  · cases h
theorem sCall_no {vs own idx : Nat} {c' : Cfg} : sCall vs own idx (pc, ls, st, σ) ≠ some (.inl c') := by
  intro h
  unfold sCall at h
  repeat' split at h
  all_goals cases h
theorem sIret_no {rt : Option FieldType} {c' : Cfg} : sIret rt (pc, ls, st, σ) ≠ some (.inl c') := by
  intro h
  unfold sIret at h
  repeat' split at h
  all_goals cases h
theorem sLret_no {rt : Option FieldType} {c' : Cfg} : sLret rt (pc, ls, st, σ) ≠ some (.inl c') := by
  intro h
  unfold sLret at h
  repeat' split at h
  all_goals cases h
theorem sVret_no {rt : Option FieldType} {c' : Cfg} : sVret rt (pc, ls, st, σ) ≠ some (.inl c') := by
  intro h
  unfold sVret at h
  repeat' split at h
  all_goals cases h
theorem so_sw {df lo hi : Int} {offs : Array Int} (C : Cx p s m args c M dC dI ad nz Aa tys prs A) (hG : Gd prs ls st σ) (hd : decode M.2.2.1 pc = .ok (.tableswitch df lo hi offs, len)) (h : sSw df lo hi offs (pc, ls, st, σ) = some (.inl (pc', ls', st', σ'))) :
    (Gd prs ls' st' σ' ∧ Nx p l e R s m args below meth c Q dC dI ad nz Aa prs A pc ls st σ pc' ls' st' σ') ∧ ls'.length = ls.length := by
  obtain ⟨hx, hb, hml, hts, hown, hK, hD, hSF, hz, hpo, hto⟩ := C
  unfold sSw at h
  split at h
  · rename_i pc0 ls0 x0 st0 s0 heq
    cases heq
    have hx0 : r32 x0 := hG.2.1.hd
    have hT := hG.2.1.tl
    split at h
    · rename_i hlen
      have hlen := of_decide_eq_true hlen
      have hln : ∀ (os : List Int) (lo1 : Int), sTab (fun o => sTo pc o ls st0 σ) x0 df lo1 os = some (.inl (pc', ls', st', σ')) → ls'.length = ls.length := by
        intro os
        induction os with
        | nil =>
          intro lo1 h1
          obtain ⟨t1, -, e1⟩ := to_inv h1
          cases e1
          rfl
        | cons o1 os ih =>
          intro lo1 h1
          unfold sTab at h1
          split at h1
          · obtain ⟨t1, -, e1⟩ := to_inv h1
            cases e1
            rfl
          · exact ih _ h1
      refine ⟨?_, hln _ _ h⟩
      refine so_tab (x := x0) (d0 := df) (st0 := st0) hx0 hG.1 hT hG.2.2 df hi lo offs rfl (fun H locs la off tgt z1 z2 z3 z4 k => ?_) (fun H locs la tgt z1 z2 k => ?_) offs.toList lo (fun k0 hk0 => ?_) (Int.le_refl _) hlen (by omega) h
      · exact lv_tableIn hx hb (x := Int32.ofInt x0) hd (by rw [i32_r hx0]; exact z1) (by rw [i32_r hx0]; exact z2) (by rw [i32_r hx0]; exact z3) z4 k
      · exact lv_tableOut hx hb (x := Int32.ofInt x0) hd (by rw [i32_r hx0]; exact z1) z2 k
      · rw [show (lo - lo).toNat + k0 = k0 by omega, Array.getElem?_toList]
    · cases h
  · cases h
set_option maxHeartbeats 1000000 in
theorem so_all {i : Instr} (C : Cx p s m args c M dC dI ad nz Aa tys prs A) (hR : 1 ≤ R.frames ∧ 100 ≤ R.locals) (hG : Gd prs ls st σ) (hls : M.2.2.2.1 = ls.length) (hd : decode M.2.2.1 pc = .ok (i, len)) (h : stpI M.1 M.2.2.2.2 i len (pc, ls, st, σ) = some (.inl (pc', ls', st', σ'))) :
    (Gd prs ls' st' σ' ∧ Nx p l e R s m args below meth c Q dC dI ad nz Aa prs A pc ls st σ pc' ls' st' σ') ∧ ls'.length = ls.length := by
  have C0 := C
  obtain ⟨hx, hb, hml, hts, hown, hK, hD, hSF, hz, hpo, hto⟩ := C
  unfold stpI at h
  split at h
  next hlen =>
    cases i
    case iconst nn =>
      have hl9 := len_of (k := 1) hlen (by decide)
      subst hl9
      have h : sIcon nn 1 (pc, ls, st, σ) = some (.inl (pc', ls', st', σ')) := h
      unfold sIcon at h
      split at h
      · rename_i hc
        exact ⟨so_push hG h (r32_cst hc) (fun H locs la rest _ k => lv_iconst hx hb hd rfl k), sPush_len _ h⟩
      · cases h
    case bipush nn =>
      have hl9 := len_of (k := 2) hlen (by decide)
      subst hl9
      have h : sIcon8 nn 2 (pc, ls, st, σ) = some (.inl (pc', ls', st', σ')) := h
      unfold sIcon8 at h
      split at h
      · rename_i hc
        have hc := cst8_r hc
        exact ⟨so_push hG h (by constructor <;> omega) (fun H locs la rest _ k => lv_bipush hx hb hd (cst_8 hc) k), sPush_len _ h⟩
      · cases h
    case sipush nn =>
      have hl9 := len_of (k := 3) hlen (by decide)
      subst hl9
      have h : sIcon nn 3 (pc, ls, st, σ) = some (.inl (pc', ls', st', σ')) := h
      unfold sIcon at h
      split at h
      · rename_i hc
        exact ⟨so_push hG h (r32_cst hc) (fun H locs la rest _ k => lv_sipush hx hb hd (cst_16 hc) k), sPush_len _ h⟩
      · cases h
    case lconst nn =>
      have hl9 := len_of (k := 1) hlen (by decide)
      subst hl9
      have h : sPush (.inr (.inr ((nn : Nat) : Int))) 1 (pc, ls, st, σ) = some (.inl (pc', ls', st', σ')) := h
      have hn2 := nn.isLt
      exact ⟨so_push hG h (by show r64 _; constructor <;> omega) (fun H locs la rest _ k => lv_lconst hx hb hd (by rw [Int64.ofInt_eq_ofNat]) k), sPush_len _ h⟩
    case ldc kk =>
      have hl9 := len_of (k := 2) hlen (by decide)
      subst hl9
      have h : sCon M.1 kk 2 (pc, ls, st, σ) = some (.inl (pc', ls', st', σ')) := h
      refine ⟨so_ldc C0 hG hd h, ?_⟩
      unfold sCon at h
      split at h
      · exact sPush_len _ h
      · split at h
        · exact sPush_len _ h
        · cases h
    case ldc_w kk =>
      have hl9 := len_of (k := 3) hlen (by decide)
      subst hl9
      have h : (match lcl M.1 kk with | some n => sPush (.inl n) 3 (pc, ls, st, σ) | none => none) = some (.inl (pc', ls', st', σ')) := h
      split at h
      · rename_i n0 hn0
        have hc := lcl_ok hn0
        exact ⟨so_push hG h hc.2 (fun H locs la rest hS k => lv_ldcw hx hb hown (hts _ hc.1) hd k), sPush_len _ h⟩
      · cases h
    case ldc2_w kk =>
      have hl9 := len_of (k := 3) hlen (by decide)
      subst hl9
      have h : (match lll M.1 kk with | some n => sPush (.inr (.inr n)) 3 (pc, ls, st, σ) | none => none) = some (.inl (pc', ls', st', σ')) := h
      split at h
      · rename_i n0 hn0
        have hc := lll_ok hn0
        exact ⟨so_push hG h hc.2 (fun H locs la rest hS k => lv_ldc2 hx hb hown (hts _ hc.1) hd k), sPush_len _ h⟩
      · cases h
    case iload_n kk =>
      have hl9 := len_of (k := 1) hlen (by decide)
      subst hl9
      have h : sIload kk 1 (pc, ls, st, σ) = some (.inl (pc', ls', st', σ')) := h
      exact ⟨so_iload hG h (fun H locs la x rest hl k => lv_iload_n hx hb hd rfl hl k), sIload_len _ h⟩
    case iload kk =>
      have hl9 := len_of (k := 2) hlen (by decide)
      subst hl9
      have h : sIload kk 2 (pc, ls, st, σ) = some (.inl (pc', ls', st', σ')) := h
      exact ⟨so_iload hG h (fun H locs la x rest hl k => lv_iload hx hb hd hl k), sIload_len _ h⟩
    case lload_n kk =>
      have hl9 := len_of (k := 1) hlen (by decide)
      subst hl9
      have h : sLload kk 1 (pc, ls, st, σ) = some (.inl (pc', ls', st', σ')) := h
      exact ⟨so_lload hG h (fun H locs la x rest hl k => lv_lload_n hx hb hd rfl hl k), sLload_len _ h⟩
    case lload kk =>
      have hl9 := len_of (k := 2) hlen (by decide)
      subst hl9
      have h : sLload kk 2 (pc, ls, st, σ) = some (.inl (pc', ls', st', σ')) := h
      exact ⟨so_lload hG h (fun H locs la x rest hl k => lv_lload hx hb hd hl k), sLload_len _ h⟩
    case aload_n kk =>
      have hl9 := len_of (k := 1) hlen (by decide)
      subst hl9
      have h : sAload kk 1 (pc, ls, st, σ) = some (.inl (pc', ls', st', σ')) := h
      exact ⟨so_aload hG h (fun H locs la x rest hl k => lv_aload_n hx hb hd rfl hl k), sAload_len _ h⟩
    case aload kk =>
      have hl9 := len_of (k := 2) hlen (by decide)
      subst hl9
      have h : sAload kk 2 (pc, ls, st, σ) = some (.inl (pc', ls', st', σ')) := h
      exact ⟨so_aload hG h (fun H locs la x rest hl k => lv_aload hx hb hd hl k), sAload_len _ h⟩
    case istore_n kk =>
      have hl9 := len_of (k := 1) hlen (by decide)
      subst hl9
      have h : sIstore kk 1 (pc, ls, st, σ) = some (.inl (pc', ls', st', σ')) := h
      exact ⟨so_istore hz hG h (fun H locs la x rest nL lv hl hn k => lv_istore_n hx hb hd rfl hl hn rfl k), sIstore_len _ h⟩
    case istore kk =>
      have hl9 := len_of (k := 2) hlen (by decide)
      subst hl9
      have h : sIstore kk 2 (pc, ls, st, σ) = some (.inl (pc', ls', st', σ')) := h
      exact ⟨so_istore hz hG h (fun H locs la x rest nL lv hl hn k => lv_istore hx hb hd hl hn rfl k), sIstore_len _ h⟩
    case astore_n kk =>
      have hl9 := len_of (k := 1) hlen (by decide)
      subst hl9
      have h : sAstore kk 1 (pc, ls, st, σ) = some (.inl (pc', ls', st', σ')) := h
      exact ⟨so_astore hz hG h (fun H locs la x rest nL lv hl hn k => lv_astore_n hx hb hd rfl hl hn rfl k), sAstore_len _ h⟩
    case astore kk =>
      have hl9 := len_of (k := 2) hlen (by decide)
      subst hl9
      have h : sAstore kk 2 (pc, ls, st, σ) = some (.inl (pc', ls', st', σ')) := h
      exact ⟨so_astore hz hG h (fun H locs la x rest nL lv hl hn k => lv_astore hx hb hd hl hn rfl k), sAstore_len _ h⟩
    case lstore kk =>
      have hl9 := len_of (k := 2) hlen (by decide)
      subst hl9
      have h : sLstore kk 2 (pc, ls, st, σ) = some (.inl (pc', ls', st', σ')) := h
      exact ⟨so_lstore hz hG h (fun H locs la x rest nL lv hl hn k => lv_lstore hx hb hd hl hn rfl k), sLstore_len _ h⟩
    case iinc kk nn =>
      have hl9 := len_of (k := 3) hlen (by decide)
      subst hl9
      have h : sIinc kk nn (pc, ls, st, σ) = some (.inl (pc', ls', st', σ')) := h
      exact ⟨so_iinc hz hG h (fun H locs la x rest nL q lv hl hk hn k => lv_iinc hx hb hd hl hk rfl hn rfl k), sIinc_len _ _ h⟩
    case iadd =>
      have hl9 := len_of (k := 1) hlen (by decide)
      subst hl9
      have h : sBin (fun a b => w32 (a + b)) (pc, ls, st, σ) = some (.inl (pc', ls', st', σ')) := h
      exact ⟨so_bin (i := .iadd) hG h (fun a b => r32_t _) (fun a b => by rw [i32_w, Int32.ofInt_add]) (fun H locs la x y rest k => lv_iadd hx hb hd k), sBin_len _ h⟩
    case isub =>
      have hl9 := len_of (k := 1) hlen (by decide)
      subst hl9
      have h : sBin (fun a b => w32 (a - b)) (pc, ls, st, σ) = some (.inl (pc', ls', st', σ')) := h
      exact ⟨so_bin (i := .isub) hG h (fun a b => r32_t _) (fun a b => by rw [i32_w, Int32.ofInt_sub]) (fun H locs la x y rest k => lv_isub hx hb hd k), sBin_len _ h⟩
    case imul =>
      have hl9 := len_of (k := 1) hlen (by decide)
      subst hl9
      have h : sBin (fun a b => w32 (a * b)) (pc, ls, st, σ) = some (.inl (pc', ls', st', σ')) := h
      exact ⟨so_bin (i := .imul) hG h (fun a b => r32_t _) (fun a b => by rw [i32_w, Int32.ofInt_mul]) (fun H locs la x y rest k => lv_imul hx hb hd k), sBin_len _ h⟩
    case iand =>
      have hl9 := len_of (k := 1) hlen (by decide)
      subst hl9
      have h : sBin wand (pc, ls, st, σ) = some (.inl (pc', ls', st', σ')) := h
      exact ⟨so_bin (i := .iand) (g := fun x y => x &&& y) hG h (fun a b => r32_t _) (fun a b => Int32.ofInt_toInt _) (fun H locs la x y rest k => lv_iand hx hb hd k), sBin_len _ h⟩
    case ior =>
      have hl9 := len_of (k := 1) hlen (by decide)
      subst hl9
      have h : sBin wor (pc, ls, st, σ) = some (.inl (pc', ls', st', σ')) := h
      exact ⟨so_bin (i := .ior) (g := fun x y => x ||| y) hG h (fun a b => r32_t _) (fun a b => Int32.ofInt_toInt _) (fun H locs la x y rest k => lv_ior hx hb hd k), sBin_len _ h⟩
    case ixor =>
      have hl9 := len_of (k := 1) hlen (by decide)
      subst hl9
      have h : sBin wxor (pc, ls, st, σ) = some (.inl (pc', ls', st', σ')) := h
      exact ⟨so_bin (i := .ixor) (g := fun x y => x ^^^ y) hG h (fun a b => r32_t _) (fun a b => Int32.ofInt_toInt _) (fun H locs la x y rest k => lv_ixor hx hb hd k), sBin_len _ h⟩
    case ishl =>
      have hl9 := len_of (k := 1) hlen (by decide)
      subst hl9
      have h : sBin wshl (pc, ls, st, σ) = some (.inl (pc', ls', st', σ')) := h
      exact ⟨so_bin (i := .ishl) (g := fun x y => x <<< (y &&& 31)) hG h (fun a b => r32_t _) (fun a b => Int32.ofInt_toInt _) (fun H locs la x y rest k => lv_ishl hx hb hd k), sBin_len _ h⟩
    case ishr =>
      have hl9 := len_of (k := 1) hlen (by decide)
      subst hl9
      have h : sBin wshr (pc, ls, st, σ) = some (.inl (pc', ls', st', σ')) := h
      exact ⟨so_bin (i := .ishr) (g := fun x y => x >>> (y &&& 31)) hG h (fun a b => r32_t _) (fun a b => Int32.ofInt_toInt _) (fun H locs la x y rest k => lv_ishr hx hb hd k), sBin_len _ h⟩
    case iushr =>
      have hl9 := len_of (k := 1) hlen (by decide)
      subst hl9
      have h : sBin wush (pc, ls, st, σ) = some (.inl (pc', ls', st', σ')) := h
      exact ⟨so_bin (i := .iushr) (g := fun x y => (x.toUInt32 >>> (y.toUInt32 &&& Int32.toUInt32 31)).toInt32) hG h (fun a b => r32_t _) (fun a b => Int32.ofInt_toInt _) (fun H locs la x y rest k => lv_iushr hx hb hd rfl k), sBin_len _ h⟩
    case idiv =>
      have hl9 := len_of (k := 1) hlen (by decide)
      subst hl9
      have h : sDiv wdiv (pc, ls, st, σ) = some (.inl (pc', ls', st', σ')) := h
      exact ⟨so_div (i := .idiv) (g := fun x y => x / y) hG h (fun a b => r32_t _) (fun a b => Int32.ofInt_toInt _) (fun H locs la x y rest hne k => lv_idiv hx hb hd hne k), sDiv_len _ h⟩
    case irem =>
      have hl9 := len_of (k := 1) hlen (by decide)
      subst hl9
      have h : sDiv wrem (pc, ls, st, σ) = some (.inl (pc', ls', st', σ')) := h
      exact ⟨so_div (i := .irem) (g := fun x y => x - x / y * y) hG h (fun a b => r32_t _) (fun a b => Int32.ofInt_toInt _) (fun H locs la x y rest hne k => lv_irem hx hb hd hne k), sDiv_len _ h⟩
    case ineg =>
      have hl9 := len_of (k := 1) hlen (by decide)
      subst hl9
      have h : sUn (fun a => w32 (-a)) (pc, ls, st, σ) = some (.inl (pc', ls', st', σ')) := h
      exact ⟨so_un (g := fun x => -x) hG h (fun a => r32_t _) (fun a => by rw [i32_w, Int32.ofInt_neg]) (fun H locs la x rest k => lv_ineg hx hb hd k), sUn_len _ h⟩
    case i2b =>
      have hl9 := len_of (k := 1) hlen (by decide)
      subst hl9
      have h : sUn wi2b (pc, ls, st, σ) = some (.inl (pc', ls', st', σ')) := h
      exact ⟨so_un (g := fun x => x.toInt8.toInt32) hG h (fun a => r32_t _) (fun a => Int32.ofInt_toInt _) (fun H locs la x rest k => lv_i2b hx hb hd rfl k), sUn_len _ h⟩
    case i2s =>
      have hl9 := len_of (k := 1) hlen (by decide)
      subst hl9
      have h : sUn wi2s (pc, ls, st, σ) = some (.inl (pc', ls', st', σ')) := h
      exact ⟨so_un (g := fun x => x.toInt16.toInt32) hG h (fun a => r32_t _) (fun a => Int32.ofInt_toInt _) (fun H locs la x rest k => lv_i2s hx hb hd rfl k), sUn_len _ h⟩
    case i2c =>
      have hl9 := len_of (k := 1) hlen (by decide)
      subst hl9
      have h : sUn wi2c (pc, ls, st, σ) = some (.inl (pc', ls', st', σ')) := h
      exact ⟨so_un (g := fun x => (x.toUInt32 % 65536).toInt32) hG h (fun a => r32_t _) (fun a => Int32.ofInt_toInt _) (fun H locs la x rest k => lv_i2c hx hb hd rfl k), sUn_len _ h⟩
    case i2l =>
      have hl9 := len_of (k := 1) hlen (by decide)
      subst hl9
      have h : sI2l (pc, ls, st, σ) = some (.inl (pc', ls', st', σ')) := h
      obtain ⟨a, st0, rfl, e9⟩ := i2l_inv h
      cases e9
      have ha : r32 a := hG.2.1.hd
      refine ⟨⟨⟨hG.1, okT.cons (r32_64 ha) hG.2.1.tl, hG.2.2⟩, nx_row (fun H locs la _ _ _ k => lv_i2l hx hb (x := Int32.ofInt a) hd rfl ?_)⟩, rfl⟩
      rw [List.map_cons, show kc ad nz (.inr (.inr a)) = .long (Int32.ofInt a).toInt64 from by rw [i32_64 ha]; rfl] at k
      exact k
    case l2i =>
      have hl9 := len_of (k := 1) hlen (by decide)
      subst hl9
      have h : sL2i (pc, ls, st, σ) = some (.inl (pc', ls', st', σ')) := h
      obtain ⟨a, st0, rfl, e9⟩ := l2i_inv h
      cases e9
      refine ⟨⟨⟨hG.1, okT.cons (r32_t _) hG.2.1.tl, hG.2.2⟩, nx_row (fun H locs la _ _ _ k => lv_l2i hx hb (x := Int64.ofInt a) hd rfl ?_)⟩, rfl⟩
      rw [List.map_cons, show kc ad nz (.inl (wl2i a)) = .int (Int64.ofInt a).toInt32 from congrArg Value.int (Int32.ofInt_toInt _)] at k
      exact k
    case ladd =>
      have hl9 := len_of (k := 1) hlen (by decide)
      subst hl9
      have h : sLbin (fun a b => w64 (a + b)) (pc, ls, st, σ) = some (.inl (pc', ls', st', σ')) := h
      exact ⟨so_lbin hG h (fun a b => r64_t _) (fun a b => by rw [i64_w, Int64.ofInt_add]) (fun H locs la x y rest k => lv_ladd hx hb hd k), sLbin_len _ h⟩
    case lsub =>
      have hl9 := len_of (k := 1) hlen (by decide)
      subst hl9
      have h : sLbin (fun a b => w64 (a - b)) (pc, ls, st, σ) = some (.inl (pc', ls', st', σ')) := h
      exact ⟨so_lbin hG h (fun a b => r64_t _) (fun a b => by rw [i64_w, Int64.ofInt_sub]) (fun H locs la x y rest k => lv_lsub hx hb hd k), sLbin_len _ h⟩
    case lmul =>
      have hl9 := len_of (k := 1) hlen (by decide)
      subst hl9
      have h : sLbin (fun a b => w64 (a * b)) (pc, ls, st, σ) = some (.inl (pc', ls', st', σ')) := h
      exact ⟨so_lbin hG h (fun a b => r64_t _) (fun a b => by rw [i64_w, Int64.ofInt_mul]) (fun H locs la x y rest k => lv_lmul hx hb hd k), sLbin_len _ h⟩
    case ldiv =>
      have hl9 := len_of (k := 1) hlen (by decide)
      subst hl9
      have h : sLdiv wldiv (pc, ls, st, σ) = some (.inl (pc', ls', st', σ')) := h
      exact ⟨so_ldiv (g := fun x y => x / y) hG h (fun a b => r64_t _) (fun a b => Int64.ofInt_toInt _) (fun H locs la x y rest hne k => lv_ldiv hx hb hd hne k), sLdiv_len _ h⟩
    case lrem =>
      have hl9 := len_of (k := 1) hlen (by decide)
      subst hl9
      have h : sLdiv wlrem (pc, ls, st, σ) = some (.inl (pc', ls', st', σ')) := h
      exact ⟨so_ldiv (g := fun x y => x - x / y * y) hG h (fun a b => r64_t _) (fun a b => Int64.ofInt_toInt _) (fun H locs la x y rest hne k => lv_lrem hx hb hd hne k), sLdiv_len _ h⟩
    case lcmp =>
      have hl9 := len_of (k := 1) hlen (by decide)
      subst hl9
      have h : sLcmp (pc, ls, st, σ) = some (.inl (pc', ls', st', σ')) := h
      obtain ⟨a, b, st0, rfl, e9⟩ := lc_inv h
      cases e9
      have hb0 : r64 b := hG.2.1.hd
      have ha0 : r64 a := hG.2.1.tl.hd
      refine ⟨⟨⟨hG.1, okT.cons (r32_lcmp a b) hG.2.1.tl.tl, hG.2.2⟩, nx_row (fun H locs la _ _ _ k => W.lcmp hx hb (x := Int64.ofInt a) (y := Int64.ofInt b) hd ?_)⟩, rfl⟩
      rw [List.map_cons, show kc ad nz (.inl (wlcmp a b)) = .int (lg_cmp (Int64.ofInt a) (Int64.ofInt b)) from congrArg Value.int (lcmp_k ha0 hb0)] at k
      exact k
    case ifCond kk off =>
      have hl9 := len_of (k := 3) hlen (by decide)
      subst hl9
      have h : sIf kk off (pc, ls, st, σ) = some (.inl (pc', ls', st', σ')) := h
      exact so_if C0 hG hd h
    case if_icmp kk off =>
      have hl9 := len_of (k := 3) hlen (by decide)
      subst hl9
      have h : sIcmp kk off (pc, ls, st, σ) = some (.inl (pc', ls', st', σ')) := h
      exact so_icmp C0 hG hd h
    case goto off =>
      have hl9 := len_of (k := 3) hlen (by decide)
      subst hl9
      have h : sTo pc off ls st σ = some (.inl (pc', ls', st', σ')) := h
      obtain ⟨t, ht, e9⟩ := to_inv h
      cases e9
      exact ⟨⟨hG, nx_row (fun H locs la _ _ _ k => lv_goto hx hb hd ht k)⟩, rfl⟩
    case tableswitch df lo hi offs =>
      have h : sSw df lo hi offs (pc, ls, st, σ) = some (.inl (pc', ls', st', σ')) := h
      exact so_sw C0 hG hd h
    case dup =>
      have hl9 := len_of (k := 1) hlen (by decide)
      subst hl9
      have h : sDup (pc, ls, st, σ) = some (.inl (pc', ls', st', σ')) := h
      exact ⟨so_dup C0 hG hd h, sDup_len h⟩
    case dup_x1 =>
      have hl9 := len_of (k := 1) hlen (by decide)
      subst hl9
      have h : sDupx1 (pc, ls, st, σ) = some (.inl (pc', ls', st', σ')) := h
      exact ⟨so_dupx1 C0 hG hd h, sDupx1_len h⟩
    case dup2 =>
      have hl9 := len_of (k := 1) hlen (by decide)
      subst hl9
      have h : sDup2 (pc, ls, st, σ) = some (.inl (pc', ls', st', σ')) := h
      exact ⟨so_dup2 C0 hG hd h, sDup2_len h⟩
    case pop =>
      have hl9 := len_of (k := 1) hlen (by decide)
      subst hl9
      have h : sPop (pc, ls, st, σ) = some (.inl (pc', ls', st', σ')) := h
      exact ⟨so_pop C0 hG hd h, sPop_len h⟩
    case iaload =>
      have hl9 := len_of (k := 1) hlen (by decide)
      subst hl9
      have h : sIald (pc, ls, st, σ) = some (.inl (pc', ls', st', σ')) := h
      exact ⟨so_iald C0 hG hd h, sIald_len h⟩
    case baload =>
      have hl9 := len_of (k := 1) hlen (by decide)
      subst hl9
      have h : sBald (pc, ls, st, σ) = some (.inl (pc', ls', st', σ')) := h
      exact ⟨so_bald C0 hG hd h, sBald_len h⟩
    case aaload =>
      have hl9 := len_of (k := 1) hlen (by decide)
      subst hl9
      have h : sAald (pc, ls, st, σ) = some (.inl (pc', ls', st', σ')) := h
      exact ⟨so_aald C0 hG hd h, sAald_len h⟩
    case iastore =>
      have hl9 := len_of (k := 1) hlen (by decide)
      subst hl9
      have h : sIast (pc, ls, st, σ) = some (.inl (pc', ls', st', σ')) := h
      exact ⟨so_iast C0 hG hd h, sIast_len h⟩
    case bastore =>
      have hl9 := len_of (k := 1) hlen (by decide)
      subst hl9
      have h : sBast (pc, ls, st, σ) = some (.inl (pc', ls', st', σ')) := h
      exact ⟨so_bast C0 hG hd h, sBast_len h⟩
    case arraylength =>
      have hl9 := len_of (k := 1) hlen (by decide)
      subst hl9
      have h : sAlen (pc, ls, st, σ) = some (.inl (pc', ls', st', σ')) := h
      exact ⟨so_alen C0 hG hd h, sAlen_len h⟩
    case getfield kk =>
      have hl9 := len_of (k := 3) hlen (by decide)
      subst hl9
      have h : sGet M.1 kk (pc, ls, st, σ) = some (.inl (pc', ls', st', σ')) := h
      exact ⟨so_get C0 hG hd h, sGet_len _ _ h⟩
    case putfield kk =>
      have hl9 := len_of (k := 3) hlen (by decide)
      subst hl9
      have h : sPut M.1 kk (pc, ls, st, σ) = some (.inl (pc', ls', st', σ')) := h
      exact ⟨so_put C0 hG hd h, sPut_len _ _ h⟩
    case getstatic kk =>
      have hl9 := len_of (k := 3) hlen (by decide)
      subst hl9
      have h : (match gtl M.1 kk with | some v => sPush v 3 (pc, ls, st, σ) | none => none) = some (.inl (pc', ls', st', σ')) := h
      split at h
      · rename_i v0 hv0
        exact ⟨so_gets C0 hG hd hv0 h, sPush_len _ h⟩
      · cases h
    case invokestatic kk =>
      have hl9 := len_of (k := 3) hlen (by decide)
      subst hl9
      have h : sStat M.1 kk (pc, ls, st, σ) = some (.inl (pc', ls', st', σ')) := h
      unfold sStat at h
      split at h
      · rename_i ha
        rcases acl_ok ha with ⟨-, hl⟩ | ⟨e9, -⟩ | ⟨e9, -⟩
        · exact ⟨so_cpy C0 hR hl hG hls hd h, sCopy_len h⟩
        · cases e9
        · cases e9
      · rename_i ha
        rcases acl_ok ha with ⟨e9, -⟩ | ⟨-, hl⟩ | ⟨e9, -⟩
        · cases e9
        · exact ⟨so_max C0 hR hl hG hls hd h, sMath_len _ h⟩
        · cases e9
      · rename_i ha
        rcases acl_ok ha with ⟨e9, -⟩ | ⟨e9, -⟩ | ⟨-, hl⟩
        · cases e9
        · cases e9
        · exact ⟨so_min C0 hR hl hG hls hd h, sMath_len _ h⟩
      · cases h
      · exact absurd h (sCall_no)
    case invokevirtual kk =>
      have h : sCall 0 M.1 kk (pc, ls, st, σ) = some (.inl (pc', ls', st', σ')) := h
      exact absurd h (sCall_no)
    case ireturn =>
      have h : sIret M.2.2.2.2 (pc, ls, st, σ) = some (.inl (pc', ls', st', σ')) := h
      exact absurd h sIret_no
    case lreturn =>
      have h : sLret M.2.2.2.2 (pc, ls, st, σ) = some (.inl (pc', ls', st', σ')) := h
      exact absurd h sLret_no
    case return_ =>
      have h : sVret M.2.2.2.2 (pc, ls, st, σ) = some (.inl (pc', ls', st', σ')) := h
      exact absurd h sVret_no
    all_goals (have h : (none : Option Out) = some (.inl (pc', ls', st', σ')) := h; cases h)
  next => cases h
end SN
