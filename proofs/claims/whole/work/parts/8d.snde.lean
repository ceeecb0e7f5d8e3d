/-! THE MACHINE IS SOUND, 14: a run gives a contract -/
theorem run_met {l : Launch} {dC : Nat → ClassId} {dI : Nat → Nat → Nat} {ad : Nat → Nat → Nat} {nz : Value} {Aa : Nat → ClassId} {tys : List (ClassId × FieldType)} {prs : List (Nat × Nat)} (hz : nz.category = 1) (hpo : prsOk prs) (hto : tysOk Aa tys prs) {d : Nat} {M : Md} {as : List PV} {σ σ' : Sg} {r : Option PV} (hg : gM M) (h : RUN d M as σ = some (r, σ')) (hT : okT prs as) (hσ : okS σ) (hn : (slots as).length ≤ M.2.2.2.1) (sz : Nat) :
    Met l M.2.1 (Cond.code M.2.1 M.2.2.1 M.2.2.2.1 M.2.2.2.2 :: gws) (roomD d) (Pcx dC dI ad nz Aa tys prs as σ sz) (Qcx dC dI ad Aa prs r σ' (va_A (wl ad Aa prs σ) sz)) 0 0 (va_A (wl ad Aa prs σ) sz) := by
  obtain ⟨n, h⟩ := EV_inv h
  exact met_wrap hg hz hpo hto hn sz (sound hz hpo hto n d M 0 _ [] σ r σ' hg h ⟨okL_entry hT, fun v hv => (by cases hv), hσ⟩ (by unfold padL; rw [List.length_append, List.length_replicate]; omega))
