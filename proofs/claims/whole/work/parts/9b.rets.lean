/-! THE LAW 2: of which kind an answer is -/
def rK (rt : Option FieldType) (r : Option PV) : Prop := (∃ x, r = some (vi x) ∧ rt ≠ some .long) ∨ (∃ x, r = some (vl x) ∧ rt = some .long) ∨ (r = none ∧ rt = none)
theorem iret_k {rt : Option FieldType} {pc : Nat} {ls st : List PV} {σ : Sg} {o : Out} (h : sIret rt (pc, ls, st, σ) = some o) : rt ≠ some .long := by
  rintro rfl
  unfold sIret at h
  split at h
  · cases h
  · cases h
theorem ev_ret : ∀ (n d : Nat) (M : Md) (cf : Cfg) (r : Option PV) (σ' : Sg), ev n d M cf = some (r, σ') → rK M.2.2.2.2 r := by
  intro n
  induction n with
  | zero => intro d M cf r σ' h; cases h
  | succ n ih =>
    intro d M cf r σ' h
    obtain ⟨pc, ls, st, σ⟩ := cf
    rw [ev] at h
    unfold stp at h
    dsimp only at h
    cases hd : decode M.2.2.1 pc with
    | error z => rw [hd] at h; cases h
    | ok z =>
      obtain ⟨i, len⟩ := z
      rw [hd] at h
      dsimp only at h
      cases hs : stpI M.1 M.2.2.2.2 i len (pc, ls, st, σ) with
      | none => rw [hs] at h; cases h
      | some o =>
        rw [hs] at h
        rcases o with c' | q | r'
        · exact ih d M c' r σ' h
        · cases d with
          | zero => cases h
          | succ d' =>
            dsimp only at h
            cases h1 : ev n d' q.2.1 (entry q.2.1 q.2.2.1 q.2.2.2.2.2.2) with
            | none => rw [h1] at h; cases h
            | some r1 =>
              rw [h1] at h
              dsimp only at h
              cases h2 : rsm q.1 q.2.2.2 r1.1 r1.2 with
              | none => rw [h2] at h; cases h
              | some cf =>
                rw [h2] at h
                exact ih (d' + 1) M cf r σ' h
        · dsimp only at h
          cases h
          unfold stpI at hs
          split at hs
          next hlen =>
            rcases stpJ_end hs hlen with ⟨rfl, rfl, h1⟩ | ⟨rfl, rfl, h1⟩ | ⟨rfl, rfl, h1⟩
            · obtain ⟨x, rfl, e1, e2⟩ := iret_inv h1
              cases e1
              exact Or.inl ⟨x, rfl, iret_k h1⟩
            · obtain ⟨x, rfl, e1, e3⟩ := lret_inv h1
              cases e1
              exact Or.inr (Or.inl ⟨x, rfl, e3⟩)
            · obtain ⟨rfl, e1, e3⟩ := vret_inv h1
              cases e1
              exact Or.inr (Or.inr ⟨rfl, e3⟩)
          next => cases hs
theorem RUN_ret {d : Nat} {M : Md} {as : List PV} {σ σ' : Sg} {r : Option PV} (h : RUN d M as σ = some (r, σ')) : rK M.2.2.2.2 r := by
  obtain ⟨n, h⟩ := EV_inv h
  exact ev_ret _ _ _ _ _ _ h
/-- a pair of methods that answer with an int -/
theorem pair_i {mc mr : Md} {as : List PV} {σ : Sg} (hp : PAIR mc mr as) (hi : INV σ) (hn : ∃ t, mc.2.2.2.2 = some t ∧ t ≠ .long) : ∃ (x : Int) (s1 s2 : Sg), RUN 60 mc (vr 0 0 :: as) σ = some (some (vi x), s1) ∧ RUN 60 mr (vr 32 0 :: as) s1 = some (some (vi x), s2) ∧ INV s2 := by
  obtain ⟨r, s1, s2, h1, h2, h3⟩ := hp σ hi
  obtain ⟨t, ht, hn⟩ := hn
  rcases RUN_ret h1 with ⟨x, e, -⟩ | ⟨x, e, e2⟩ | ⟨e, -⟩
  · cases e
    exact ⟨x, s1, s2, h1, h2, h3⟩
  · rw [ht] at e2
    exact absurd (Option.some.inj e2) hn
  · cases e
theorem pair_l {mc mr : Md} {as : List PV} {σ : Sg} (hp : PAIR mc mr as) (hi : INV σ) (hn : mc.2.2.2.2 = some .long) : ∃ (x : Int) (s1 s2 : Sg), RUN 60 mc (vr 0 0 :: as) σ = some (some (vl x), s1) ∧ RUN 60 mr (vr 32 0 :: as) s1 = some (some (vl x), s2) ∧ INV s2 := by
  obtain ⟨r, s1, s2, h1, h2, h3⟩ := hp σ hi
  rcases RUN_ret h1 with ⟨x, e, e2⟩ | ⟨x, e, e2⟩ | ⟨e, -⟩
  · exact absurd hn e2
  · cases e
    exact ⟨x, s1, s2, h1, h2, h3⟩
  · cases e
