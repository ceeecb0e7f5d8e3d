/-! THE MACHINE IS SOUND, 9: every step that is no call and no end -/
theorem len_of {k len : Nat} (h : (Nat.beq k len || Nat.beq k 0) = true) (hk : k ≠ 0) : len = k := by
  rw [Bool.or_eq_true] at h
  rcases h with h | h
  · exact (Nat.eq_of_beq_eq_true h).symm
  · exact absurd (Nat.eq_of_beq_eq_true h) hk
section LN
variable {pc pc' : Nat} {ls ls' st st' : List PV} {σ σ' : Sg} {len : Nat}
theorem sPush_len (v : PV) (h : sPush v len (pc, ls, st, σ) = some (.inl (pc', ls', st', σ'))) : ls'.length = ls.length := by
  unfold sPush at h
  repeat' split at h
  all_goals first | (cases h; done) | (rename_i heq; cases heq; cases h; rfl) | (cases h; rfl) | skip
  all_goals (try simp only [Option.some.injEq, Sum.inl.injEq, Prod.mk.injEq, reduceCtorEq] at h)
  all_goals (try (obtain ⟨-, rfl, -, -⟩ := h))
  all_goals (try simp_all [setL_len, List.length_set])
theorem sIload_len (k : Nat) (h : sIload k len (pc, ls, st, σ) = some (.inl (pc', ls', st', σ'))) : ls'.length = ls.length := by
  unfold sIload at h
  repeat' split at h
  all_goals first | (cases h; done) | (rename_i heq; cases heq; cases h; rfl) | (cases h; rfl) | skip
  all_goals (try simp only [Option.some.injEq, Sum.inl.injEq, Prod.mk.injEq, reduceCtorEq] at h)
  all_goals (try (obtain ⟨-, rfl, -, -⟩ := h))
  all_goals (try simp_all [setL_len, List.length_set])
theorem sLload_len (k : Nat) (h : sLload k len (pc, ls, st, σ) = some (.inl (pc', ls', st', σ'))) : ls'.length = ls.length := by
  unfold sLload at h
  repeat' split at h
  all_goals first | (cases h; done) | (rename_i heq; cases heq; cases h; rfl) | (cases h; rfl) | skip
  all_goals (try simp only [Option.some.injEq, Sum.inl.injEq, Prod.mk.injEq, reduceCtorEq] at h)
  all_goals (try (obtain ⟨-, rfl, -, -⟩ := h))
  all_goals (try simp_all [setL_len, List.length_set])
theorem sAload_len (k : Nat) (h : sAload k len (pc, ls, st, σ) = some (.inl (pc', ls', st', σ'))) : ls'.length = ls.length := by
  unfold sAload at h
  repeat' split at h
  all_goals first | (cases h; done) | (rename_i heq; cases heq; cases h; rfl) | (cases h; rfl) | skip
  all_goals (try simp only [Option.some.injEq, Sum.inl.injEq, Prod.mk.injEq, reduceCtorEq] at h)
  all_goals (try (obtain ⟨-, rfl, -, -⟩ := h))
  all_goals (try simp_all [setL_len, List.length_set])
theorem sIstore_len (k : Nat) (h : sIstore k len (pc, ls, st, σ) = some (.inl (pc', ls', st', σ'))) : ls'.length = ls.length := by
  unfold sIstore at h
  repeat' split at h
  all_goals first | (cases h; done) | (rename_i heq; cases heq; cases h; rfl) | (cases h; rfl) | skip
  all_goals (try simp only [Option.some.injEq, Sum.inl.injEq, Prod.mk.injEq, reduceCtorEq] at h)
  all_goals (try (obtain ⟨-, rfl, -, -⟩ := h))
  all_goals (try simp_all [setL_len, List.length_set])
theorem sAstore_len (k : Nat) (h : sAstore k len (pc, ls, st, σ) = some (.inl (pc', ls', st', σ'))) : ls'.length = ls.length := by
  unfold sAstore at h
  repeat' split at h
  all_goals first | (cases h; done) | (rename_i heq; cases heq; cases h; rfl) | (cases h; rfl) | skip
  all_goals (try simp only [Option.some.injEq, Sum.inl.injEq, Prod.mk.injEq, reduceCtorEq] at h)
  all_goals (try (obtain ⟨-, rfl, -, -⟩ := h))
  all_goals (try simp_all [setL_len, List.length_set])
theorem sLstore_len (k : Nat) (h : sLstore k len (pc, ls, st, σ) = some (.inl (pc', ls', st', σ'))) : ls'.length = ls.length := by
  unfold sLstore at h
  repeat' split at h
  all_goals first | (cases h; done) | (rename_i heq; cases heq; cases h; rfl) | (cases h; rfl) | skip
  all_goals (try simp only [Option.some.injEq, Sum.inl.injEq, Prod.mk.injEq, reduceCtorEq] at h)
  all_goals (try (obtain ⟨-, rfl, -, -⟩ := h))
  all_goals (try simp_all [setL_len, List.length_set])
theorem sIinc_len (k : Nat) (n : Int) (h : sIinc k n (pc, ls, st, σ) = some (.inl (pc', ls', st', σ'))) : ls'.length = ls.length := by
  unfold sIinc at h
  repeat' split at h
  all_goals first | (cases h; done) | (rename_i heq; cases heq; cases h; rfl) | (cases h; rfl) | skip
  all_goals (try simp only [Option.some.injEq, Sum.inl.injEq, Prod.mk.injEq, reduceCtorEq] at h)
  all_goals (try (obtain ⟨-, rfl, -, -⟩ := h))
  all_goals (try simp_all [setL_len, List.length_set])
theorem sBin_len (f : Int → Int → Int) (h : sBin f (pc, ls, st, σ) = some (.inl (pc', ls', st', σ'))) : ls'.length = ls.length := by
  unfold sBin at h
  repeat' split at h
  all_goals first | (cases h; done) | (rename_i heq; cases heq; cases h; rfl) | (cases h; rfl) | skip
  all_goals (try simp only [Option.some.injEq, Sum.inl.injEq, Prod.mk.injEq, reduceCtorEq] at h)
  all_goals (try (obtain ⟨-, rfl, -, -⟩ := h))
  all_goals (try simp_all [setL_len, List.length_set])
theorem sDiv_len (f : Int → Int → Int) (h : sDiv f (pc, ls, st, σ) = some (.inl (pc', ls', st', σ'))) : ls'.length = ls.length := by
  unfold sDiv at h
  repeat' split at h
  all_goals first | (cases h; done) | (rename_i heq; cases heq; cases h; rfl) | (cases h; rfl) | skip
  all_goals (try simp only [Option.some.injEq, Sum.inl.injEq, Prod.mk.injEq, reduceCtorEq] at h)
  all_goals (try (obtain ⟨-, rfl, -, -⟩ := h))
  all_goals (try simp_all [setL_len, List.length_set])
theorem sUn_len (g : Int → Int) (h : sUn g (pc, ls, st, σ) = some (.inl (pc', ls', st', σ'))) : ls'.length = ls.length := by
  unfold sUn at h
  repeat' split at h
  all_goals first | (cases h; done) | (rename_i heq; cases heq; cases h; rfl) | (cases h; rfl) | skip
  all_goals (try simp only [Option.some.injEq, Sum.inl.injEq, Prod.mk.injEq, reduceCtorEq] at h)
  all_goals (try (obtain ⟨-, rfl, -, -⟩ := h))
  all_goals (try simp_all [setL_len, List.length_set])
theorem sLbin_len (f : Int → Int → Int) (h : sLbin f (pc, ls, st, σ) = some (.inl (pc', ls', st', σ'))) : ls'.length = ls.length := by
  unfold sLbin at h
  repeat' split at h
  all_goals first | (cases h; done) | (rename_i heq; cases heq; cases h; rfl) | (cases h; rfl) | skip
  all_goals (try simp only [Option.some.injEq, Sum.inl.injEq, Prod.mk.injEq, reduceCtorEq] at h)
  all_goals (try (obtain ⟨-, rfl, -, -⟩ := h))
  all_goals (try simp_all [setL_len, List.length_set])
theorem sLdiv_len (f : Int → Int → Int) (h : sLdiv f (pc, ls, st, σ) = some (.inl (pc', ls', st', σ'))) : ls'.length = ls.length := by
  unfold sLdiv at h
  repeat' split at h
  all_goals first | (cases h; done) | (rename_i heq; cases heq; cases h; rfl) | (cases h; rfl) | skip
  all_goals (try simp only [Option.some.injEq, Sum.inl.injEq, Prod.mk.injEq, reduceCtorEq] at h)
  all_goals (try (obtain ⟨-, rfl, -, -⟩ := h))
  all_goals (try simp_all [setL_len, List.length_set])
theorem sLcmp_len  (h : sLcmp (pc, ls, st, σ) = some (.inl (pc', ls', st', σ'))) : ls'.length = ls.length := by
  unfold sLcmp at h
  repeat' split at h
  all_goals first | (cases h; done) | (rename_i heq; cases heq; cases h; rfl) | (cases h; rfl) | skip
  all_goals (try simp only [Option.some.injEq, Sum.inl.injEq, Prod.mk.injEq, reduceCtorEq] at h)
  all_goals (try (obtain ⟨-, rfl, -, -⟩ := h))
  all_goals (try simp_all [setL_len, List.length_set])
theorem sI2l_len  (h : sI2l (pc, ls, st, σ) = some (.inl (pc', ls', st', σ'))) : ls'.length = ls.length := by
  unfold sI2l at h
  repeat' split at h
  all_goals first | (cases h; done) | (rename_i heq; cases heq; cases h; rfl) | (cases h; rfl) | skip
  all_goals (try simp only [Option.some.injEq, Sum.inl.injEq, Prod.mk.injEq, reduceCtorEq] at h)
  all_goals (try (obtain ⟨-, rfl, -, -⟩ := h))
  all_goals (try simp_all [setL_len, List.length_set])
theorem sL2i_len  (h : sL2i (pc, ls, st, σ) = some (.inl (pc', ls', st', σ'))) : ls'.length = ls.length := by
  unfold sL2i at h
  repeat' split at h
  all_goals first | (cases h; done) | (rename_i heq; cases heq; cases h; rfl) | (cases h; rfl) | skip
  all_goals (try simp only [Option.some.injEq, Sum.inl.injEq, Prod.mk.injEq, reduceCtorEq] at h)
  all_goals (try (obtain ⟨-, rfl, -, -⟩ := h))
  all_goals (try simp_all [setL_len, List.length_set])
theorem sDup_len  (h : sDup (pc, ls, st, σ) = some (.inl (pc', ls', st', σ'))) : ls'.length = ls.length := by
  unfold sDup at h
  repeat' split at h
  all_goals first | (cases h; done) | (rename_i heq; cases heq; cases h; rfl) | (cases h; rfl) | skip
  all_goals (try simp only [Option.some.injEq, Sum.inl.injEq, Prod.mk.injEq, reduceCtorEq] at h)
  all_goals (try (obtain ⟨-, rfl, -, -⟩ := h))
  all_goals (try simp_all [setL_len, List.length_set])
theorem sPop_len  (h : sPop (pc, ls, st, σ) = some (.inl (pc', ls', st', σ'))) : ls'.length = ls.length := by
  unfold sPop at h
  repeat' split at h
  all_goals first | (cases h; done) | (rename_i heq; cases heq; cases h; rfl) | (cases h; rfl) | skip
  all_goals (try simp only [Option.some.injEq, Sum.inl.injEq, Prod.mk.injEq, reduceCtorEq] at h)
  all_goals (try (obtain ⟨-, rfl, -, -⟩ := h))
  all_goals (try simp_all [setL_len, List.length_set])
theorem sDupx1_len  (h : sDupx1 (pc, ls, st, σ) = some (.inl (pc', ls', st', σ'))) : ls'.length = ls.length := by
  unfold sDupx1 at h
  repeat' split at h
  all_goals first | (cases h; done) | (rename_i heq; cases heq; cases h; rfl) | (cases h; rfl) | skip
  all_goals (try simp only [Option.some.injEq, Sum.inl.injEq, Prod.mk.injEq, reduceCtorEq] at h)
  all_goals (try (obtain ⟨-, rfl, -, -⟩ := h))
  all_goals (try simp_all [setL_len, List.length_set])
theorem sDup2_len  (h : sDup2 (pc, ls, st, σ) = some (.inl (pc', ls', st', σ'))) : ls'.length = ls.length := by
  unfold sDup2 at h
  repeat' split at h
  all_goals first | (cases h; done) | (rename_i heq; cases heq; cases h; rfl) | (cases h; rfl) | skip
  all_goals (try simp only [Option.some.injEq, Sum.inl.injEq, Prod.mk.injEq, reduceCtorEq] at h)
  all_goals (try (obtain ⟨-, rfl, -, -⟩ := h))
  all_goals (try simp_all [setL_len, List.length_set])
theorem sGet_len (k : Nat) (k2 : Nat) (h : sGet k k2 (pc, ls, st, σ) = some (.inl (pc', ls', st', σ'))) : ls'.length = ls.length := by
  unfold sGet at h
  repeat' split at h
  all_goals first | (cases h; done) | (rename_i heq; cases heq; cases h; rfl) | (cases h; rfl) | skip
  all_goals (try simp only [Option.some.injEq, Sum.inl.injEq, Prod.mk.injEq, reduceCtorEq] at h)
  all_goals (try (obtain ⟨-, rfl, -, -⟩ := h))
  all_goals (try simp_all [setL_len, List.length_set])
theorem sPut_len (k : Nat) (k2 : Nat) (h : sPut k k2 (pc, ls, st, σ) = some (.inl (pc', ls', st', σ'))) : ls'.length = ls.length := by
  unfold sPut at h
  repeat' split at h
  all_goals first | (cases h; done) | (rename_i heq; cases heq; cases h; rfl) | (cases h; rfl) | skip
  all_goals (try simp only [Option.some.injEq, Sum.inl.injEq, Prod.mk.injEq, reduceCtorEq] at h)
  all_goals (try (obtain ⟨-, rfl, -, -⟩ := h))
  all_goals (try simp_all [setL_len, List.length_set])
theorem sIald_len  (h : sIald (pc, ls, st, σ) = some (.inl (pc', ls', st', σ'))) : ls'.length = ls.length := by
  unfold sIald at h
  repeat' split at h
  all_goals first | (cases h; done) | (rename_i heq; cases heq; cases h; rfl) | (cases h; rfl) | skip
  all_goals (try simp only [Option.some.injEq, Sum.inl.injEq, Prod.mk.injEq, reduceCtorEq] at h)
  all_goals (try (obtain ⟨-, rfl, -, -⟩ := h))
  all_goals (try simp_all [setL_len, List.length_set])
theorem sBald_len  (h : sBald (pc, ls, st, σ) = some (.inl (pc', ls', st', σ'))) : ls'.length = ls.length := by
  unfold sBald at h
  repeat' split at h
  all_goals first | (cases h; done) | (rename_i heq; cases heq; cases h; rfl) | (cases h; rfl) | skip
  all_goals (try simp only [Option.some.injEq, Sum.inl.injEq, Prod.mk.injEq, reduceCtorEq] at h)
  all_goals (try (obtain ⟨-, rfl, -, -⟩ := h))
  all_goals (try simp_all [setL_len, List.length_set])
theorem sAald_len  (h : sAald (pc, ls, st, σ) = some (.inl (pc', ls', st', σ'))) : ls'.length = ls.length := by
  unfold sAald at h
  repeat' split at h
  all_goals first | (cases h; done) | (rename_i heq; cases heq; cases h; rfl) | (cases h; rfl) | skip
  all_goals (try simp only [Option.some.injEq, Sum.inl.injEq, Prod.mk.injEq, reduceCtorEq] at h)
  all_goals (try (obtain ⟨-, rfl, -, -⟩ := h))
  all_goals (try simp_all [setL_len, List.length_set])
theorem sIast_len  (h : sIast (pc, ls, st, σ) = some (.inl (pc', ls', st', σ'))) : ls'.length = ls.length := by
  unfold sIast at h
  repeat' split at h
  all_goals first | (cases h; done) | (rename_i heq; cases heq; cases h; rfl) | (cases h; rfl) | skip
  all_goals (try simp only [Option.some.injEq, Sum.inl.injEq, Prod.mk.injEq, reduceCtorEq] at h)
  all_goals (try (obtain ⟨-, rfl, -, -⟩ := h))
  all_goals (try simp_all [setL_len, List.length_set])
theorem sBast_len  (h : sBast (pc, ls, st, σ) = some (.inl (pc', ls', st', σ'))) : ls'.length = ls.length := by
  unfold sBast at h
  repeat' split at h
  all_goals first | (cases h; done) | (rename_i heq; cases heq; cases h; rfl) | (cases h; rfl) | skip
  all_goals (try simp only [Option.some.injEq, Sum.inl.injEq, Prod.mk.injEq, reduceCtorEq] at h)
  all_goals (try (obtain ⟨-, rfl, -, -⟩ := h))
  all_goals (try simp_all [setL_len, List.length_set])
theorem sAlen_len  (h : sAlen (pc, ls, st, σ) = some (.inl (pc', ls', st', σ'))) : ls'.length = ls.length := by
  unfold sAlen at h
  repeat' split at h
  all_goals first | (cases h; done) | (rename_i heq; cases heq; cases h; rfl) | (cases h; rfl) | skip
  all_goals (try simp only [Option.some.injEq, Sum.inl.injEq, Prod.mk.injEq, reduceCtorEq] at h)
  all_goals (try (obtain ⟨-, rfl, -, -⟩ := h))
  all_goals (try simp_all [setL_len, List.length_set])
theorem sCopy_len  (h : sCopy (pc, ls, st, σ) = some (.inl (pc', ls', st', σ'))) : ls'.length = ls.length := by
  unfold sCopy at h
  repeat' split at h
  all_goals first | (cases h; done) | (rename_i heq; cases heq; cases h; rfl) | (cases h; rfl) | skip
  all_goals (try simp only [Option.some.injEq, Sum.inl.injEq, Prod.mk.injEq, reduceCtorEq] at h)
  all_goals (try (obtain ⟨-, rfl, -, -⟩ := h))
  all_goals (try simp_all [setL_len, List.length_set])
theorem sMath_len (f : Int → Int → Int) (h : sMath f (pc, ls, st, σ) = some (.inl (pc', ls', st', σ'))) : ls'.length = ls.length := by
  unfold sMath at h
  repeat' split at h
  all_goals first | (cases h; done) | (rename_i heq; cases heq; cases h; rfl) | (cases h; rfl) | skip
  all_goals (try simp only [Option.some.injEq, Sum.inl.injEq, Prod.mk.injEq, reduceCtorEq] at h)
  all_goals (try (obtain ⟨-, rfl, -, -⟩ := h))
  all_goals (try simp_all [setL_len, List.length_set])
end LN
