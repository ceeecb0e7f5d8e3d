/-! the machine's runs, without fuel: EV; its equations -/
theorem ev_mono : ∀ (n d : Nat) (M : Md) (c : Cfg) (r : Option PV × Sg), ev n d M c = some r → ev (n + 1) d M c = some r := by
  intro n
  induction n with
  | zero => intro d M c r h; simp [ev] at h
  | succ n ih =>
    intro d M c r h
    rw [ev] at h ⊢
    cases hs : stp M c with
    | none => rw [hs] at h; cases h
    | some o =>
      rw [hs] at h
      rcases o with c' | q | r'
      · exact ih d M c' r h
      · cases d with
        | zero => cases h
        | succ d' =>
          dsimp only at h ⊢
          cases h1 : ev n d' q.2.1 (entry q.2.1 q.2.2.1 q.2.2.2.2.2.2) with
          | none => rw [h1] at h; cases h
          | some r1 =>
            rw [h1] at h
            rw [ih _ _ _ _ h1]
            dsimp only at h ⊢
            cases h2 : rsm q.1 q.2.2.2 r1.1 r1.2 with
            | none => rw [h2] at h; cases h
            | some c' =>
              rw [h2] at h
              exact ih _ _ _ _ h
      · exact h
theorem ev_le {n k d : Nat} {M : Md} {c : Cfg} {r : Option PV × Sg} (hk : n ≤ k) (h : ev n d M c = some r) : ev k d M c = some r := by
  induction k with
  | zero => rw [Nat.le_zero.mp hk] at h; exact h
  | succ k ih =>
    rcases Nat.lt_or_ge n (k + 1) with q | q
    · exact ev_mono _ _ _ _ _ (ih (Nat.le_of_lt_succ q))
    · rw [Nat.le_antisymm hk q] at h; exact h
theorem ev_det {n k d : Nat} {M : Md} {c : Cfg} {r r' : Option PV × Sg} (h : ev n d M c = some r) (h' : ev k d M c = some r') : r = r' := by
  have h1 := ev_le (Nat.le_max_left n k) h
  have h2 := ev_le (Nat.le_max_right n k) h'
  rw [h1] at h2
  exact Option.some.inj h2
noncomputable def EV (d : Nat) (M : Md) (c : Cfg) : Rs := @dite _ (∃ r, ∃ n, ev n d M c = some r) (Classical.propDecidable _) (fun h => some (Classical.choose h)) (fun _ => none)
theorem EV_of {n d : Nat} {M : Md} {c : Cfg} {r : Option PV × Sg} (h : ev n d M c = some r) : EV d M c = some r := by
  have hx : ∃ r, ∃ n, ev n d M c = some r := ⟨r, n, h⟩
  unfold EV
  rw [dif_pos hx]
  obtain ⟨k, hk⟩ := Classical.choose_spec hx
  rw [ev_det hk h]
theorem EV_inv {d : Nat} {M : Md} {c : Cfg} {r : Option PV × Sg} (h : EV d M c = some r) : ∃ n, ev n d M c = some r := by
  unfold EV at h
  by_cases hx : ∃ r, ∃ n, ev n d M c = some r
  · rw [dif_pos hx] at h
    have := Classical.choose_spec hx
    rw [Option.some.inj h] at this
    exact this
  · rw [dif_neg hx] at h; cases h
noncomputable def RUN (d : Nat) (M : Md) (as : List PV) (σ : Sg) : Rs := EV d M (entry M as σ)
noncomputable def evo (d : Nat) (M : Md) (o : Option Out) : Rs := match o with
  | none => none
  | some (.inl c) => EV d M c
  | some (.inr (.inl q)) => (match d with
    | 0 => none
    | d' + 1 => (match RUN d' q.2.1 q.2.2.1 q.2.2.2.2.2.2 with
      | none => none
      | some r => (match rsm q.1 q.2.2.2 r.1 r.2 with
        | none => none
        | some c' => EV (d' + 1) M c')))
  | some (.inr (.inr r)) => some r
theorem EV_eq (d : Nat) (M : Md) (c : Cfg) : EV d M c = evo d M (stp M c) := by
  apply Option.ext
  intro r
  constructor
  · intro h
    obtain ⟨n, h⟩ := EV_inv h
    cases n with
    | zero => cases h
    | succ n =>
      rw [ev] at h
      cases hs : stp M c with
      | none => rw [hs] at h; cases h
      | some o =>
        rw [hs] at h
        rcases o with c' | q | r'
        · exact EV_of h
        · cases d with
          | zero => cases h
          | succ d' =>
            dsimp only at h
            cases h1 : ev n d' q.2.1 (entry q.2.1 q.2.2.1 q.2.2.2.2.2.2) with
            | none => rw [h1] at h; cases h
            | some r1 =>
              rw [h1] at h
              dsimp only at h
              have h3 : RUN d' q.2.1 q.2.2.1 q.2.2.2.2.2.2 = some r1 := EV_of h1
              unfold evo
              dsimp only
              rw [h3]
              dsimp only
              cases h2 : rsm q.1 q.2.2.2 r1.1 r1.2 with
              | none => rw [h2] at h; cases h
              | some c' =>
                rw [h2] at h
                exact EV_of h
        · exact h
  · intro h
    cases hs : stp M c with
    | none => rw [hs] at h; cases h
    | some o =>
      rw [hs] at h
      rcases o with c' | q | r'
      · obtain ⟨n, h⟩ := EV_inv h
        refine EV_of (n := n + 1) ?_
        rw [ev, hs]
        exact h
      · cases d with
        | zero => cases h
        | succ d' =>
          unfold evo at h
          dsimp only at h
          cases h1 : RUN d' q.2.1 q.2.2.1 q.2.2.2.2.2.2 with
          | none => rw [h1] at h; cases h
          | some r1 =>
            rw [h1] at h
            dsimp only at h
            cases h2 : rsm q.1 q.2.2.2 r1.1 r1.2 with
            | none => rw [h2] at h; cases h
            | some c' =>
              rw [h2] at h
              obtain ⟨n1, e1⟩ := EV_inv h1
              obtain ⟨n2, e2⟩ := EV_inv h
              refine EV_of (n := max n1 n2 + 1) ?_
              rw [ev, hs]
              dsimp only
              rw [ev_le (Nat.le_max_left n1 n2) e1]
              dsimp only
              rw [h2]
              exact ev_le (Nat.le_max_right n1 n2) e2
      · refine EV_of (n := 1) ?_
        rw [ev, hs]
        exact h
def bV (o : Rs) (k : Sg → Rs) : Rs := match o with | some (none, σ) => k σ | _ => none
def bI (o : Rs) (k : Int → Sg → Rs) : Rs := match o with | some (some (.inl r), σ) => k r σ | _ => none
def bL (o : Rs) (k : Int → Sg → Rs) : Rs := match o with | some (some (.inr (.inr r)), σ) => k r σ | _ => none
section XR
variable {d : Nat} {M : Md} {pc : Nat} {ls st : List PV} {σ : Sg} {i : Instr} {len : Nat} {A B : Rs}
theorem x_dec {o : Option Out} (hd : decode M.2.2.1 pc = .ok (i, len)) (hs : stpI M.1 M.2.2.2.2 i len (pc, ls, st, σ) = o) (h : evo d M o = A) : EV d M (pc, ls, st, σ) = A := by
  rw [EV_eq, ← h, ← hs]
  unfold stp
  dsimp only
  rw [hd]
theorem x_st (pc' : Nat) {ls' st' : List PV} {σ' : Sg} (hd : decode M.2.2.1 pc = .ok (i, len)) (hs : stpI M.1 M.2.2.2.2 i len (pc, ls, st, σ) = some (.inl (pc', ls', st', σ'))) (h : EV d M (pc', ls', st', σ') = A) : EV d M (pc, ls, st, σ) = A := x_dec hd hs h
theorem x_so (pc' : Nat) (ls' : List PV) {st' : List PV} {σ' : Sg} (hd : decode M.2.2.1 pc = .ok (i, len)) (hs : stpI M.1 M.2.2.2.2 i len (pc, ls, st, σ) = some (.inl (pc', ls', st', σ'))) (h : EV d M (pc', ls', st', σ') = A) : EV d M (pc, ls, st, σ) = A := x_dec hd hs h
theorem x_br (hd : decode M.2.2.1 pc = .ok (i, len)) (h : evo d M (stpI M.1 M.2.2.2.2 i len (pc, ls, st, σ)) = A) : EV d M (pc, ls, st, σ) = A := x_dec hd rfl h
theorem x_go (pc' : Nat) {ls' st' : List PV} {σ' : Sg} (h : EV d M (pc', ls', st', σ') = A) : evo d M (some (.inl (pc', ls', st', σ'))) = A := h
theorem x_no : evo d M none = none := rfl
theorem x_if {p : Prop} [Decidable p] {X Y : Option Out} (hX : evo d M X = A) (hY : evo d M Y = B) : evo d M (if p then X else Y) = if p then A else B := by
  by_cases h : p
  · rw [if_pos h, if_pos h]; exact hX
  · rw [if_neg h, if_neg h]; exact hY
theorem x_yes {p : Prop} [Decidable p] {X Y : Option Out} (hp : p) (hX : evo d M X = A) : evo d M (if p then X else Y) = A := by rw [if_pos hp]; exact hX
theorem x_nay {p : Prop} [Decidable p] {X Y : Option Out} (hp : ¬ p) (hY : evo d M Y = A) : evo d M (if p then X else Y) = A := by rw [if_neg hp]; exact hY
theorem x_ret {r : Option PV × Sg} (hd : decode M.2.2.1 pc = .ok (i, len)) (hs : stpI M.1 M.2.2.2.2 i len (pc, ls, st, σ) = some (.inr (.inr r))) : EV d M (pc, ls, st, σ) = some r := x_dec hd hs rfl
theorem x_rg {p : Prop} [Decidable p] {r : Option PV × Sg} : evo d M (if p then some (.inr (.inr r)) else none) = if p then some r else none := x_if rfl rfl
theorem x_ry {p : Prop} [Decidable p] {r : Option PV × Sg} (hp : p) : evo d M (if p then some (.inr (.inr r)) else none) = some r := x_yes hp rfl
theorem x_cv (pc' : Nat) (ls' st' : List PV) {M' : Md} {as : List PV} {σ' : Sg} {k : Sg → Rs} (hd : decode M.2.2.1 pc = .ok (i, len)) (hs : stpI M.1 M.2.2.2.2 i len (pc, ls, st, σ) = some (.inr (.inl (0, M', as, (pc', ls', st', σ'))))) (h : ∀ σ2, EV (d + 1) M (pc', ls', st', σ2) = k σ2) : EV (d + 1) M (pc, ls, st, σ) = bV (RUN d M' as σ') k := by
  refine x_dec hd hs ?_
  unfold evo
  dsimp only
  cases hr : RUN d M' as σ' with
  | none => rfl
  | some r =>
    obtain ⟨r, σ2⟩ := r
    cases r with
    | none => exact h σ2
    | some v => rcases v with v | v | v <;> rfl
theorem x_ci (pc' : Nat) (ls' st' : List PV) {M' : Md} {as : List PV} {σ' : Sg} {k : Int → Sg → Rs} (hd : decode M.2.2.1 pc = .ok (i, len)) (hs : stpI M.1 M.2.2.2.2 i len (pc, ls, st, σ) = some (.inr (.inl (1, M', as, (pc', ls', st', σ'))))) (h : ∀ r σ2, EV (d + 1) M (pc', ls', vi r :: st', σ2) = k r σ2) : EV (d + 1) M (pc, ls, st, σ) = bI (RUN d M' as σ') k := by
  refine x_dec hd hs ?_
  unfold evo
  dsimp only
  cases hr : RUN d M' as σ' with
  | none => rfl
  | some r =>
    obtain ⟨r, σ2⟩ := r
    cases r with
    | none => rfl
    | some v =>
      rcases v with v | v | v
      · exact h v σ2
      · rfl
      · rfl
theorem x_cl (pc' : Nat) (ls' st' : List PV) {M' : Md} {as : List PV} {σ' : Sg} {k : Int → Sg → Rs} (hd : decode M.2.2.1 pc = .ok (i, len)) (hs : stpI M.1 M.2.2.2.2 i len (pc, ls, st, σ) = some (.inr (.inl (2, M', as, (pc', ls', st', σ'))))) (h : ∀ r σ2, EV (d + 1) M (pc', ls', vl r :: st', σ2) = k r σ2) : EV (d + 1) M (pc, ls, st, σ) = bL (RUN d M' as σ') k := by
  refine x_dec hd hs ?_
  unfold evo
  dsimp only
  cases hr : RUN d M' as σ' with
  | none => rfl
  | some r =>
    obtain ⟨r, σ2⟩ := r
    cases r with
    | none => rfl
    | some v =>
      rcases v with v | v | v
      · rfl
      · rfl
      · exact h v σ2
theorem x_run {as : List PV} {c : Cfg} (he : entry M as σ = c) (h : EV d M c = A) : RUN d M as σ = A := by
  unfold RUN
  rw [he]
  exact h
end XR
