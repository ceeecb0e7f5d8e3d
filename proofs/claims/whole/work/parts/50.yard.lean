/-! YARD 1: the fleet, the rule; leaves of class and reference -/
def akS (v : Sem × Sem × Sem) (ft : Ft) : Ak := fun k c l m a => semN v (k : Int) (envI ft c l m a)
def ftOk (ft : Ft) (n : Nat) : Prop := n ≤ 6 ∧ ∀ c, c < n → (0 ≤ ft 0 c ∧ ft 0 c ≤ 9) ∧ (0 ≤ ft 1 c ∧ ft 1 c ≤ 1) ∧ (0 ≤ ft 2 c ∧ ft 2 c ≤ 3) ∧ (0 ≤ ft 3 c ∧ ft 3 c ≤ 99) ∧ (0 ≤ ft 4 c ∧ ft 4 c ≤ 9) ∧ (0 ≤ ft 5 c ∧ ft 5 c ≤ 5)
def ftC (ft : Ft) (n : Nat) (s : Sg) : Prop := s 1 0 1 = (n : Int) ∧ ∀ c, c < n → ∀ f, f < 6 → s 3 f c = ft f c
def ruC (v : Sem × Sem × Sem) (s : Sg) : Prop := ∃ t tn : Nat, s 4 0 5 = (t : Int) ∧ t < tn ∧ s 4 0 4 = (tn : Int) ∧ tn ≤ 6 ∧ ∀ k, k < 3 → stands t k (semN v (k : Int)) s
def egI (eg : Bool) : Int := if eg = true then 1 else 0
def YC (ft : Ft) (n : Nat) (v : Sem × Sem × Sem) (eg : Bool) (s : Sg) : Prop := ftC ft n s ∧ ftOk ft n ∧ ruC v s ∧ s 13 0 14 = egI eg
/-- nothing of what the yard rests on has changed -/
def frY (s s' : Sg) : Prop := (∀ c, c = 1 ∨ c = 3 ∨ c = 4 ∨ c = 6 ∨ c = 8 → s' c = s c) ∧ s' 13 0 14 = s 13 0 14
theorem frY_refl (s : Sg) : frY s s := ⟨fun _ _ => rfl, rfl⟩
theorem frY_tr {s1 s2 s3 : Sg} (h1 : frY s1 s2) (h2 : frY s2 s3) : frY s1 s3 := ⟨fun c h => (h2.1 c h).trans (h1.1 c h), h2.2.trans h1.2⟩
theorem frY_A {s s' : Sg} (h : frA s s') : frY s s' := ⟨fun c hc => h c (by omega) (by omega), by rw [h 13 (by decide) (by decide)]⟩
theorem stands_fr {t k : Nat} {v : Sem} {s s' : Sg} (h : stands t k v s) (h6 : s' 6 = s 6) (h8 : s' 8 = s 8) : stands t k v s' := by
  obtain ⟨w, c, x1, x2, x3, x4, x5, x6⟩ := h
  exact ⟨w, c, by rw [h8]; exact x1, x2, fun i hi => by rw [h6]; exact x3 i hi, by rw [h6]; exact x4, x5, x6⟩
theorem YC_fr {ft : Ft} {n : Nat} {v : Sem × Sem × Sem} {eg : Bool} {s s' : Sg} (h : YC ft n v eg s) (hf : frY s s') : YC ft n v eg s' := by
  obtain ⟨⟨a1, a2⟩, b1, ⟨t, tn, c1, c2, c3, c4, c5⟩, d1⟩ := h
  obtain ⟨f1, f2⟩ := hf
  have e1 := f1 1 (by omega)
  have e3 := f1 3 (by omega)
  have e4 := f1 4 (by omega)
  refine ⟨⟨by rw [e1]; exact a1, fun c hc f hf => by rw [e3]; exact a2 c hc f hf⟩, b1, ⟨t, tn, by rw [e4]; exact c1, c2, by rw [e4]; exact c3, c4, fun k hk => stands_fr (c5 k hk) (f1 6 (by omega)) (f1 8 (by omega))⟩, f2.trans d1⟩
section YL
variable {ft : Ft} {n : Nat} {v : Sem × Sem × Sem} {eg : Bool} {s : Sg} {d c : Nat} {l m a : Int}
theorem YC_tell {f : Nat} (h : YC ft n v eg s) (hc : c < n) (hf : f < 6) : RUN d mX1_tell [vr 1 0, vi (f : Int), vi (c : Int)] s = some (some (vi (ft f c)), s) := by
  have h6 := h.2.1.1
  rw [tell_ok (by omega) (by rw [h.1.1]; omega) (by rw [h.1.1]; omega), Int.toNat_natCast, Int.toNat_natCast, h.1.2 c hc f hf]
theorem YC_size (h : YC ft n v eg s) : RUN d mX1_size [vr 1 0] s = some (some (vi (n : Int)), s) := by rw [size_ok, h.1.1]
theorem YC_has {x : Int} (h : YC ft n v eg s) : RUN d mX1_has [vr 1 0, vi x] s = some (some (vi (if 0 ≤ x ∧ x < (n : Int) then 1 else 0)), s) := by rw [has_ok, h.1.1]
theorem YC_ask {k : Nat} (h : YC ft n v eg s) (hc : c < n) (hk : k < 3) : ∃ s', RUN (d + 1) mX5_ask [vr 4 0, vi (k : Int), vr 1 0, vi (c : Int), vi l, vi m, vi a] s = some (some (vi (akS v ft k c l m a)), s') ∧ frA s s' := by
  have h6 := h.2.1.1
  obtain ⟨t, tn, c1, c2, c3, c4, c5⟩ := h.2.2.1
  obtain ⟨s', a1, a2⟩ := askC (d := d) (c := c) (l := l) (m := m) (a := a) hk c1 (by rw [c3]; omega) (by omega) (c5 k hk) (by rw [h.1.1]; omega) (by rw [h.1.1]; omega)
  refine ⟨s', ?_, a2⟩
  have e : envI (s 3) c l m a = envI ft c l m a := by
    funext q
    unfold envI
    rw [h.1.2 c hc 1 (by omega), h.1.2 c hc 0 (by omega), h.1.2 c hc 4 (by omega)]
  rw [a1, e]
  rfl
theorem fits3 {kd cp : Int} (hl : -2147483648 ≤ l ∧ l < 2147483648) : RUN d mX3_fits [vi kd, vi cp, vi l] s = some (some (vi (if fitB kd cp l = true then 1 else 0)), s) := by
  rw [qX3_fits, wrem_eq hl (by omega)]
  unfold fitB
  by_cases h2 : kd = 2
  · rw [if_pos h2]; simp [h2]
  rw [if_neg h2]
  by_cases h3 : kd = 3
  · rw [if_pos h3]
    by_cases hq : l.tmod 2 = cp
    · rw [if_pos hq]; simp [h3, hq]
    · rw [if_neg hq]; simp [h3, hq]
  rw [if_neg h3]
  by_cases h4 : kd = 4
  · rw [if_pos h4]; simp [h4]
  rw [if_neg h4]
  by_cases h5 : kd = 5
  · rw [if_pos h5]
    by_cases hq : l = 3
    · rw [if_pos hq]; simp [h5, hq]
    · rw [if_neg hq]; simp [h5, hq]
  rw [if_neg h5]
  by_cases hq : l.tmod 2 = cp
  · rw [if_pos hq]; simp [h2, h4, h5, hq]
  · rw [if_neg hq]; simp [h2, h4, h5, hq]
theorem b01r {p : Prop} [Decidable p] : (0 : Int) ≤ (if p then 1 else 0) ∧ (if p then (1 : Int) else 0) ≤ 1 := by
  by_cases h : p
  · rw [if_pos h]; decide
  · rw [if_neg h]; decide
theorem fitsC (h : YC ft n v eg s) (hc : c < n) (hl : 0 ≤ l ∧ l < 4) : RUN (d + 1) mX7_fits [vr 13 0, vi (c : Int), vi l] s = some (some (vi (if fitB (ft 5 c) (ft 1 c) l = true then 1 else 0)), s) := by
  rw [qX7_fits]
  rw [show RUN d mX1_tell [vr 1 0, vi 5, vi (c : Int)] s = _ from YC_tell (f := 5) h hc (by omega), bI_s, show RUN d mX1_tell [vr 1 0, vi 1, vi (c : Int)] s = _ from YC_tell (f := 1) h hc (by omega), bI_s, fits3 (by omega), bI_s, if_pos b01r]
theorem drawsC (h : YC ft n v eg s) (hc : c < n) : ∃ s', RUN (d + 2) mX7_drawsForward [vr 13 0, vi (c : Int), vi l, vi m] s = some (some (vi (if drawB ft (akS v ft) eg c l m = true then 1 else 0)), s') ∧ frA s s' := by
  have h14 := h.2.2.2
  have hfin : ∀ (y : Int) (s1 : Sg) (z2 z3 z4 : PV), YC ft n v eg s1 → y = (if (eg || decide (akS v ft 1 c l m 0 ≠ 0)) = true then 1 else 0) → EV (d + 1 + 1) mX7_drawsForward (31, [vr 13 0, vi (c : Int), z2, z3, z4], [vi y], s1) = some (some (vi (if drawB ft (akS v ft) eg c l m = true then 1 else 0)), s1) := by
    intro y s1 z2 z3 z4 h1 hy
    rw [qX7_drawsForward_31]
    rw [show RUN (d + 1) mX1_tell [vr 1 0, vi 5, vi (c : Int)] s1 = _ from YC_tell (f := 5) h1 hc (by omega), bI_s, show RUN (d + 1) mX1_tell [vr 1 0, vi 0, vi (c : Int)] s1 = _ from YC_tell (f := 0) h1 hc (by omega), bI_s, qX3_drawsForward]
    unfold drawB
    generalize (eg || decide (akS v ft 1 c l m 0 ≠ 0)) = q at hy ⊢
    have hk := (h.2.1.2 c hc).2.2.2.2.2
    by_cases h2 : ft 5 c = 2
    · rw [if_pos h2, if_pos h2, bI_s]; rfl
    rw [if_neg h2, if_neg h2]
    have hyr : 0 ≤ y ∧ y ≤ 1 := by rw [hy]; exact b01r
    by_cases h3 : ft 5 c = 3
    · rw [if_pos h3, if_pos hyr, bI_s, if_pos hyr, hy, if_neg (show ¬ ft 5 c = 4 by omega)]
      simp [h3]
    rw [if_neg h3]
    by_cases h4 : ft 5 c = 4
    · rw [if_pos h4, if_pos h4, bI_s]; rfl
    rw [if_neg h4, if_neg h4]
    by_cases h5 : ft 5 c = 5
    · rw [if_pos h5]
      cases q with
      | false =>
        rw [if_neg (by decide)] at hy
        rw [if_pos hy, bI_s]
        simp
      | true =>
        rw [if_pos rfl] at hy
        rw [if_neg (by omega)]
        by_cases h6 : 4 < ft 0 c
        · rw [if_pos h6, bI_s]; simp [h6]
        · rw [if_neg h6, bI_s]; simp [h5, h6]
    · rw [if_neg h5, if_pos hyr, bI_s, if_pos hyr, hy]
      simp [h5]
  rw [qX7_drawsForward, h14]
  cases eg with
  | false =>
    obtain ⟨s1, a1, a2⟩ := YC_ask (d := d) (k := 1) (l := l) (m := m) (a := 0) h hc (by omega)
    rw [if_pos (show egI false = 0 from rfl), show RUN (d + 1) mX5_ask [vr 4 0, vi 1, vr 1 0, vi (c : Int), vi l, vi m, vi 0] s = _ from a1, bI_s]
    refine ⟨s1, ?_, a2⟩
    by_cases hz : akS v ft 1 c l m 0 = 0
    · rw [if_pos hz, hfin 0 s1 _ _ _ (YC_fr h (frY_A a2)) (by simp [hz])]
    · rw [if_neg hz, qX7_drawsForward_26, hfin 1 s1 _ _ _ (YC_fr h (frY_A a2)) (by simp [hz])]
  | true =>
    rw [if_neg (show ¬ egI true = 0 by decide), qX7_drawsForward_26, hfin 1 s _ _ _ h (by simp)]
    exact ⟨s, rfl, fun _ _ _ => rfl⟩
theorem withinC {x hi : Int} (h : 0 ≤ hi) : RUN d mX7_within [vi hi, vi x] s = some (some (vi (clampI hi x)), s) := by
  rw [qX7_within]
  have : wmax 0 (wmin hi x) = clampI hi x := by
    unfold wmax wmin clampI
    by_cases h1 : x < hi
    · rw [if_pos h1]
      by_cases h2 : x < 0
      · rw [if_neg (by omega), if_pos h2]
      · rw [if_neg h2, if_neg (show ¬ hi < x by omega)]
        by_cases h3 : 0 < x
        · rw [if_pos h3]
        · rw [if_neg h3]; omega
    · rw [if_neg h1, if_neg (show ¬ x < 0 by omega)]
      by_cases h4 : hi < x
      · rw [if_pos h4]
        by_cases h3 : 0 < hi
        · rw [if_pos h3]
        · rw [if_neg h3]; omega
      · rw [if_neg h4]
        by_cases h3 : 0 < hi
        · rw [if_pos h3]; omega
        · rw [if_neg h3]; omega
  rw [this]
theorem min3 {kd pl nb : Int} (hk : 0 ≤ kd ∧ kd ≤ 5) (hp : 0 ≤ pl ∧ pl ≤ 49) (hn : 0 ≤ nb ∧ nb ≤ 9) : RUN d mX3_minutes [vi kd, vi pl, vi nb] s = some (some (vi (minT kd pl nb)), s) := by
  rw [qX3_minutes]
  unfold minT
  by_cases h1 : kd = 1
  · rw [if_pos h1, if_pos h1, w32_id (by omega) (by omega)]
  rw [if_neg h1, if_neg h1]
  by_cases h2 : kd = 2
  · rw [if_pos h2, if_neg (show ¬ kd = 3 by omega), if_pos (Or.inl h2), wdiv_eq (by omega) (by omega)]
  rw [if_neg h2]
  by_cases h3 : kd = 3
  · rw [if_pos h3, if_pos h3, w32_id (x := 2 * pl) (by omega) (by omega), w32_id (by omega) (by omega)]
  rw [if_neg h3, if_neg h3]
  by_cases h4 : kd = 4
  · rw [if_pos h4, if_pos (Or.inr h4), wdiv_eq (by omega) (by omega)]
  rw [if_neg h4, if_neg (show ¬ (kd = 2 ∨ kd = 4) by omega)]
  by_cases h5 : kd = 5
  · rw [if_pos h5, if_pos h5, w32_id (by omega) (by omega)]
  rw [if_neg h5, if_neg h5]
theorem minT_rg {kd pl nb : Int} (hp : 0 ≤ pl ∧ pl ≤ 49) (hn : 0 ≤ nb ∧ nb ≤ 9) : 0 ≤ minT kd pl nb ∧ minT kd pl nb ≤ 120 := by
  have h := Int.tdiv_nonneg hp.1 (show (0 : Int) ≤ 2 by decide)
  have h2 := Int.natAbs_tdiv_le_natAbs pl 2
  unfold minT
  split
  · omega
  split
  · omega
  split
  · omega
  split <;> omega
theorem takesC (h : YC ft n v eg s) (hc : c < n) : ∃ s', RUN (d + 2) mX7_takes [vr 13 0, vi (c : Int), vi l, vi m, vi a] s = some (some (vi (takeI ft (akS v ft) c l m a)), s') ∧ frA s s' := by
  obtain ⟨s1, a1, a2⟩ := YC_ask (d := d) (k := 0) (l := l) (m := m) (a := a) h hc (by omega)
  have h1 := YC_fr h (frY_A a2)
  have hr := clampI_rg (hi := 40) (x := akS v ft 0 c l m a) (by decide)
  have hf := h.2.1.2 c hc
  refine ⟨s1, ?_, a2⟩
  rw [qX7_takes, show RUN (d + 1) mX5_ask [vr 4 0, vi 0, vr 1 0, vi (c : Int), vi l, vi m, vi a] s = _ from a1, bI_s, withinC (by decide), bI_s, show RUN (d + 1) mX1_tell [vr 1 0, vi 4, vi (c : Int)] s1 = _ from YC_tell (f := 4) h1 hc (by omega), bI_s, show RUN (d + 1) mX1_tell [vr 1 0, vi 5, vi (c : Int)] s1 = _ from YC_tell (f := 5) h1 hc (by omega), bI_s, show RUN (d + 1) mX1_tell [vr 1 0, vi 0, vi (c : Int)] s1 = _ from YC_tell (f := 0) h1 hc (by omega), bI_s, w32_id (by omega) (by omega), min3 (by omega) (by omega) (by omega), bI_s]
  unfold takeI wmax
  have e : ∀ x : Int, (if (1 : Int) < x then x else 1) = if x < 1 then 1 else x := by
    intro x
    by_cases q : x < 1
    · rw [if_pos q, if_neg (by omega)]
    · rw [if_neg q]
      by_cases q2 : 1 < x
      · rw [if_pos q2]
      · rw [if_neg q2]; omega
  rw [e]
theorem mindsC (h : YC ft n v eg s) (hc : c < n) : ∃ s', RUN (d + 2) mX7_minds [vr 13 0, vi (c : Int), vi l] s = some (some (vi (mindI ft (akS v ft) c l)), s') ∧ frA s s' := by
  obtain ⟨s1, a1, a2⟩ := YC_ask (d := d) (k := 2) (l := l) (m := ft 3 c) (a := 0) h hc (by omega)
  refine ⟨s1, ?_, a2⟩
  rw [qX7_minds, show RUN (d + 1) mX1_tell [vr 1 0, vi 3, vi (c : Int)] s = _ from YC_tell (f := 3) h hc (by omega), bI_s, show RUN (d + 1) mX5_ask [vr 4 0, vi 2, vr 1 0, vi (c : Int), vi l, vi (ft 3 c), vi 0] s = _ from a1, bI_s, withinC (by decide), bI_s]
  rfl
def bef (ft : Ft) (c c' : Nat) : Prop := ft 3 c < ft 3 c' ∨ (ft 3 c = ft 3 c' ∧ c < c')
theorem comesC {c' : Nat} (h : YC ft n v eg s) (hc : c < n) (hc' : c' < n) : ∃ r : Int, RUN (d + 1) mX7_comesBefore [vr 13 0, vi (c : Int), vi (c' : Int)] s = some (some (vi r), s) ∧ ((r = 0 ∧ ¬ bef ft c c') ∨ (r = 1 ∧ bef ft c c')) := by
  rw [qX7_comesBefore, show RUN d mX1_tell [vr 1 0, vi 3, vi (c : Int)] s = _ from YC_tell (f := 3) h hc (by omega), bI_s, show RUN d mX1_tell [vr 1 0, vi 3, vi (c' : Int)] s = _ from YC_tell (f := 3) h hc' (by omega), bI_s]
  unfold bef
  by_cases h1 : ft 3 c < ft 3 c'
  · rw [if_pos h1]; exact ⟨1, rfl, Or.inr ⟨rfl, Or.inl h1⟩⟩
  rw [if_neg h1]
  by_cases h2 : ft 3 c = ft 3 c'
  · rw [if_pos h2]
    by_cases h3 : (c : Int) < (c' : Int)
    · rw [if_pos h3]; exact ⟨1, rfl, Or.inr ⟨rfl, by omega⟩⟩
    · rw [if_neg h3]; exact ⟨0, rfl, Or.inl ⟨rfl, by omega⟩⟩
  · rw [if_neg h2]; exact ⟨0, rfl, Or.inl ⟨rfl, by omega⟩⟩
end YL
