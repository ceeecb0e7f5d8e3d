/-! THE MACHINE IS SOUND, 10: so_all -/
section SN
variable {p : Program} {l : Launch} {e : Env} {R : Room} {s : State} {m : MethodId} {args : Array Value} {below : List Frame} {meth : Method} {c : Code} {Q : State → Prop}
variable {dC : Nat → ClassId} {dI : Nat → Nat → Nat} {ad : Nat → Nat → Nat} {nz : Value} {Aa : Nat → ClassId} {tys : List (ClassId × FieldType)} {prs : List (Nat × Nat)} {A : Nat → Prop} {M : Md}
variable {pc pc' : Nat} {ls ls' st st' : List PV} {σ σ' : Sg} {len : Nat}
theorem so_if {k : Jvm.ClassFile.Cond} {off : Int} (C : Cx p s m args c M dC dI ad nz Aa tys prs A) (hG : Gd prs ls st σ) (hd : decode M.2.2.1 pc = .ok (.ifCond k off, 3)) (h : sIf k off (pc, ls, st, σ) = some (.inl (pc', ls', st', σ'))) :
    (Gd prs ls' st' σ' ∧ Nx p l e R s m args below meth c Q dC dI ad nz Aa prs A pc ls st σ pc' ls' st' σ') ∧ ls'.length = ls.length := by
  obtain ⟨hx, hb, hml, hts, hown, hK, hD, hSF, hz, hpo, hto⟩ := C
  unfold sIf at h
  split at h
  · rename_i pc0 ls0 x0 st0 s0 heq
    cases heq
    have hx0 : r32 x0 := hG.2.1.hd
    have hT := hG.2.1.tl
    have hj : (jmp pc off).isSome = true := by
      cases hj : (jmp pc off).isSome with
      | true => rfl
      | false => rw [hj] at h; cases h
    rw [hj] at h
    dsimp only at h
    obtain ⟨tg, htg⟩ := Option.isSome_iff_exists.mp hj
    have hto2 : ∃ tgt : Nat, (pc : Int) + off = (tgt : Int) := ⟨tg, jmp_ok htg⟩
    have hin := br_inv h
    have hlen : ls'.length = ls.length := by
      have h9 : (sTo pc off ls st0 σ = some (.inl (pc', ls', st', σ'))) ∨ ((some (.inl (pc + 3, ls, st0, σ)) : Option Out) = some (.inl (pc', ls', st', σ'))) := by
        cases k <;> exact hin.elim (fun z => Or.inl z.2) (fun z => Or.inr z.2)
      rcases h9 with h9 | h9
      · obtain ⟨t1, -, e1⟩ := to_inv h9
        cases e1
        rfl
      · cases h9
        rfl
    refine ⟨?_, hlen⟩
    cases k

    · exact so_cond (x := x0) (y := 0) hG.1 hT hG.2.2 (i32_eq hx0 r32_0) hin (fun H locs la tgt ht k1 k2 => lv_if_eq hx hb hd ht k1 k2) hto2
    · exact so_cond (x := x0) (y := 0) hG.1 hT hG.2.2 (not_congr (i32_eq hx0 r32_0)) (hin.imp id (fun z => ⟨fun z1 => z1 z.1, z.2⟩)) (fun H locs la tgt ht k1 k2 => lv_if_ne hx hb hd ht k1 (fun z => k2 (fun z1 => z1 z))) hto2
    · exact so_cond (x := x0) (y := 0) hG.1 hT hG.2.2 (i32_lt hx0 r32_0) hin (fun H locs la tgt ht k1 k2 => lv_if_lt hx hb hd ht k1 k2) hto2
    · exact so_cond (x := x0) (y := 0) hG.1 hT hG.2.2 (i32_le r32_0 hx0) hin (fun H locs la tgt ht k1 k2 => lv_if_ge hx hb hd ht k1 k2) hto2
    · exact so_cond (x := x0) (y := 0) hG.1 hT hG.2.2 (i32_lt r32_0 hx0) hin (fun H locs la tgt ht k1 k2 => lv_if_gt hx hb hd ht k1 k2) hto2
    · exact so_cond (x := x0) (y := 0) hG.1 hT hG.2.2 (i32_le hx0 r32_0) hin (fun H locs la tgt ht k1 k2 => lv_if_le hx hb hd ht k1 k2) hto2
  · cases h
theorem so_icmp {k : Jvm.ClassFile.Cond} {off : Int} (C : Cx p s m args c M dC dI ad nz Aa tys prs A) (hG : Gd prs ls st σ) (hd : decode M.2.2.1 pc = .ok (.if_icmp k off, 3)) (h : sIcmp k off (pc, ls, st, σ) = some (.inl (pc', ls', st', σ'))) :
    (Gd prs ls' st' σ' ∧ Nx p l e R s m args below meth c Q dC dI ad nz Aa prs A pc ls st σ pc' ls' st' σ') ∧ ls'.length = ls.length := by
  obtain ⟨hx, hb, hml, hts, hown, hK, hD, hSF, hz, hpo, hto⟩ := C
  unfold sIcmp at h
  split at h
  · rename_i pc0 ls0 y0 x0 st0 s0 heq
    cases heq
    have hy0 : r32 y0 := hG.2.1.hd
    have hx0 : r32 x0 := hG.2.1.tl.hd
    have hT := hG.2.1.tl.tl
    have hj : (jmp pc off).isSome = true := by
      cases hj : (jmp pc off).isSome with
      | true => rfl
      | false => rw [hj] at h; cases h
    rw [hj] at h
    dsimp only at h
    obtain ⟨tg, htg⟩ := Option.isSome_iff_exists.mp hj
    have hto2 : ∃ tgt : Nat, (pc : Int) + off = (tgt : Int) := ⟨tg, jmp_ok htg⟩
    have hin := br_inv h
    have hlen : ls'.length = ls.length := by
      have h9 : (sTo pc off ls st0 σ = some (.inl (pc', ls', st', σ'))) ∨ ((some (.inl (pc + 3, ls, st0, σ)) : Option Out) = some (.inl (pc', ls', st', σ'))) := by
        cases k <;> exact hin.elim (fun z => Or.inl z.2) (fun z => Or.inr z.2)
      rcases h9 with h9 | h9
      · obtain ⟨t1, -, e1⟩ := to_inv h9
        cases e1
        rfl
      · cases h9
        rfl
    refine ⟨?_, hlen⟩
    cases k

    · exact so_cond (x := x0) (y := y0) hG.1 hT hG.2.2 (i32_eq hx0 hy0) hin (fun H locs la tgt ht k1 k2 => lv_icmp_eq hx hb hd ht k1 k2) hto2
    · exact so_cond (x := x0) (y := y0) hG.1 hT hG.2.2 (not_congr (i32_eq hx0 hy0)) (hin.imp id (fun z => ⟨fun z1 => z1 z.1, z.2⟩)) (fun H locs la tgt ht k1 k2 => lv_icmp_ne hx hb hd ht k1 (fun z => k2 (fun z1 => z1 z))) hto2
    · exact so_cond (x := x0) (y := y0) hG.1 hT hG.2.2 (i32_lt hx0 hy0) hin (fun H locs la tgt ht k1 k2 => lv_icmp_lt hx hb hd ht k1 k2) hto2
    · exact so_cond (x := x0) (y := y0) hG.1 hT hG.2.2 (i32_le hy0 hx0) hin (fun H locs la tgt ht k1 k2 => lv_icmp_ge hx hb hd ht k1 k2) hto2
    · exact so_cond (x := x0) (y := y0) hG.1 hT hG.2.2 (i32_lt hy0 hx0) hin (fun H locs la tgt ht k1 k2 => lv_icmp_gt hx hb hd ht k1 k2) hto2
    · exact so_cond (x := x0) (y := y0) hG.1 hT hG.2.2 (i32_le hx0 hy0) hin (fun H locs la tgt ht k1 k2 => lv_icmp_le hx hb hd ht k1 k2) hto2
  · cases h
end SN
