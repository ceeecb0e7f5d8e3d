/-! REF 1: the reference's leaves -/
theorem b11 {p : Prop} [Decidable p] {A B : Rs} : (if (if p then (1 : Int) else 0) = 1 then A else B) = if p then A else B := by
  by_cases h : p
  · rw [if_pos h, if_pos h, if_pos rfl]
  · rw [if_neg h, if_neg h, if_neg (by decide)]
def YR (ft : Ft) (n : Nat) (v : Sem × Sem × Sem) (eg : Bool) (s : Sg) : Prop := (s 32 0 9 = (n : Int) ∧ ∀ c, c < n → (∀ f, f < 5 → s 37 0 (5 * c + f) = ft f c) ∧ s 36 0 c = ft 5 c) ∧ ftOk ft n ∧ (∃ (t : Nat) (b : Nat → Int) (sz : Nat), s 32 0 4 = (t : Int) ∧ t < 6 ∧ s 34 0 t = (sz : Int) ∧ sz ≤ 160 ∧ (∀ i, i < sz → s 33 0 (160 * t + i) = b i) ∧ (∀ i, i < sz → 0 ≤ b i ∧ b i ≤ 255) ∧ txtP b sz = .inr v) ∧ s 32 0 25 = egI eg
def frZ (s s' : Sg) : Prop := (∀ c, c = 33 ∨ c = 34 ∨ c = 36 ∨ c = 37 → s' c = s c) ∧ (∀ i, i = 4 ∨ i = 9 ∨ i = 25 → s' 32 0 i = s 32 0 i)
theorem YR_fr {ft : Ft} {n : Nat} {v : Sem × Sem × Sem} {eg : Bool} {s s' : Sg} (h : YR ft n v eg s) (hf : frZ s s') : YR ft n v eg s' := by
  obtain ⟨⟨a1, a2⟩, b1, ⟨t, b, sz, c1, c2, c3, c4, c5, c6, c7⟩, d1⟩ := h
  obtain ⟨f1, f2⟩ := hf
  have e33 := f1 33 (by omega)
  have e34 := f1 34 (by omega)
  have e36 := f1 36 (by omega)
  have e37 := f1 37 (by omega)
  refine ⟨⟨(f2 9 (by omega)).trans a1, fun c hc => ⟨fun f hf => by rw [e37]; exact (a2 c hc).1 f hf, by rw [e36]; exact (a2 c hc).2⟩⟩, b1, ⟨t, b, sz, (f2 4 (by omega)).trans c1, c2, by rw [e34]; exact c3, c4, fun i hi => by rw [e33]; exact c5 i hi, c6, c7⟩, (f2 25 (by omega)).trans d1⟩
/-- asking changes the reader's words alone -/
def frK (s s' : Sg) : Prop := (∀ c, c ≠ 32 → s' c = s c) ∧ (∀ i, ¬ (10 ≤ i ∧ i ≤ 24) → s' 32 0 i = s 32 0 i)
theorem frK_refl (s : Sg) : frK s s := ⟨fun _ _ => rfl, fun _ _ => rfl⟩
theorem frK_tr {s1 s2 s3 : Sg} (h1 : frK s1 s2) (h2 : frK s2 s3) : frK s1 s3 := ⟨fun c h => (h2.1 c h).trans (h1.1 c h), fun i h => (h2.2 i h).trans (h1.2 i h)⟩
theorem frZ_K {s s' : Sg} (h : frK s s') : frZ s s' := ⟨fun c hc => h.1 c (by omega), fun i hi => h.2 i (by omega)⟩
section RL
variable {ft : Ft} {n : Nat} {v : Sem × Sem × Sem} {eg : Bool} {s : Sg} {d c : Nat} {l m a : Int}
theorem r0 {c : Nat} (h : c < 6) : w32 (5 * (c : Int)) = ((5 * c + 0 : Nat) : Int) := by rw [w32_id (by omega) (by omega)]; omega
theorem r1 {c : Nat} (h : c < 6) : w32 (w32 (5 * (c : Int)) + 1) = ((5 * c + 1 : Nat) : Int) := by rw [r0 h, w32_id (by omega) (by omega)]; omega
theorem r2 {c : Nat} (h : c < 6) : w32 (w32 (5 * (c : Int)) + 2) = ((5 * c + 2 : Nat) : Int) := by rw [r0 h, w32_id (by omega) (by omega)]; omega
theorem r3 {c : Nat} (h : c < 6) : w32 (w32 (5 * (c : Int)) + 3) = ((5 * c + 3 : Nat) : Int) := by rw [r0 h, w32_id (by omega) (by omega)]; omega
theorem r4 {c : Nat} (h : c < 6) : w32 (w32 (5 * (c : Int)) + 4) = ((5 * c + 4 : Nat) : Int) := by rw [r0 h, w32_id (by omega) (by omega)]; omega
theorem inbN {x k : Nat} (h : x < k) : inb (x : Int) k := ⟨by omega, by omega⟩
theorem YR_row {f : Nat} (h : YR ft n v eg s) (hc : c < n) (hf : f < 5) : s 37 0 (5 * c + f) = ft f c := (h.1.2 c hc).1 f hf
theorem YR_kd (h : YR ft n v eg s) (hc : c < n) : s 36 0 c = ft 5 c := (h.1.2 c hc).2
theorem withR {x hi : Int} (hh : 0 ≤ hi) : RUN d mX9_within [vi x, vi 0, vi hi] s = some (some (vi (clampI hi x)), s) := by
  rw [qX9_within]
  unfold clampI
  by_cases h1 : x < 0
  · rw [if_pos h1, if_pos h1]
  · rw [if_neg h1, if_neg h1]
    by_cases h2 : hi < x
    · rw [if_pos h2, if_pos h2]
    · rw [if_neg h2, if_neg h2]
def askV (k : Nat) (x : Int) : Int := if k = 0 then clampI 40 x else if k = 1 then (if x = 0 then 0 else 1) else clampI 9 x
theorem asksR {k : Nat} (h : YR ft n v eg s) (hc : c < n) (hk : k < 3) : ∃ s', RUN (d + 43) mX9_asks [vr 32 0, vi (k : Int), vi (c : Int), vi l, vi m, vi a] s = some (some (vi (askV k (akS v ft k c l m a))), s') ∧ frK s s' := by
  have h6 := h.2.1.1
  have hc6 : c < 6 := by omega
  obtain ⟨t, b, sz, c1, c2, c3, c4, c5, c6, c7⟩ := h.2.2.1
  rw [qX9_asks, r1 hc6, r4 hc6, r0 hc6, if_pos (inbN (by omega)), if_pos (inbN (by omega)), if_pos (inbN (by omega)), Int.toNat_natCast, Int.toNat_natCast, Int.toNat_natCast, YR_row h hc (by omega), YR_row h hc (by omega), YR_row h hc (by omega), c1]
  obtain ⟨s1, hs1, hf1, he⟩ : ∃ s1, up (up (up (up (up (up s 32 0 10 (ft 1 c)) 32 0 11 l) 32 0 12 m) 32 0 13 (ft 0 c)) 32 0 14 a) 32 0 15 (ft 4 c) = s1 ∧ frK s s1 ∧ (∀ q, q < 6 → s1 32 0 (10 + q) = envI ft c l m a q) := by
    refine ⟨_, rfl, ⟨fun q hq => by rw [up_c hq, up_c hq, up_c hq, up_c hq, up_c hq, up_c hq], fun i hi => by rw [up_i (by omega), up_i (by omega), up_i (by omega), up_i (by omega), up_i (by omega), up_i (by omega)]⟩, fun q hq => ?_⟩
    have hq : q = 0 ∨ q = 1 ∨ q = 2 ∨ q = 3 ∨ q = 4 ∨ q = 5 := by omega
    unfold envI
    rcases hq with rfl | rfl | rfl | rfl | rfl | rfl
    · rw [up_i (by decide), up_i (by decide), up_i (by decide), up_i (by decide), up_i (by decide), if_pos rfl, up_hit]
    · rw [up_i (by decide), up_i (by decide), up_i (by decide), up_i (by decide), if_neg (by decide), if_pos rfl, up_hit]
    · rw [up_i (by decide), up_i (by decide), up_i (by decide), if_neg (by decide), if_neg (by decide), if_pos rfl, up_hit]
    · rw [up_i (by decide), up_i (by decide), if_neg (by decide), if_neg (by decide), if_neg (by decide), if_pos rfl, up_hit]
    · rw [up_i (by decide), if_neg (by decide), if_neg (by decide), if_neg (by decide), if_neg (by decide), if_pos rfl, up_hit]
    · rw [if_neg (by decide), if_neg (by decide), if_neg (by decide), if_neg (by decide), if_neg (by decide), up_hit]
  have e33 : s1 33 = s 33 := hf1.1 33 (by decide)
  have e34 : s1 34 = s 34 := hf1.1 34 (by decide)
  obtain ⟨s2, a1, a2, a3⟩ := (readR (b := b) (sz := sz) (d := d + 42) (t := t) (which := (k : Int)) (s := s1) (env := envI ft c l m a) (by omega) c2 (by rw [e34]; exact c3) c4 (fun i hi => by rw [e33]; exact c5 i hi) c6 he).2 v c7
  have f2 : frK s s2 := frK_tr hf1 ⟨fun q hq => funext (fun j => funext (fun i => a3 q j i (fun h => hq h.1))), fun i hi => a3 32 0 i (fun h => hi ⟨by omega, by omega⟩)⟩
  rw [hs1, a1, bI_s]
  have eA : semN v (k : Int) (envI ft c l m a) = akS v ft k c l m a := rfl
  rw [eA]
  refine ⟨s2, ?_, f2⟩
  unfold askV
  have hk' : k = 0 ∨ k = 1 ∨ k = 2 := by omega
  rcases hk' with rfl | rfl | rfl
  · rw [if_pos (show ((0 : Nat) : Int) = 0 from rfl), withR (by decide), bI_s, if_pos rfl]
  · rw [if_neg (show ¬ ((1 : Nat) : Int) = 0 by decide), if_pos (show ((1 : Nat) : Int) = 1 from rfl), if_neg (show ¬ (1 : Nat) = 0 by decide), if_pos (show (1 : Nat) = 1 from rfl)]
    by_cases hz : akS v ft 1 c l m a = 0
    · rw [if_pos hz, if_pos hz]
    · rw [if_neg hz, if_neg hz]
  · rw [if_neg (show ¬ ((2 : Nat) : Int) = 0 by decide), if_neg (show ¬ ((2 : Nat) : Int) = 1 by decide), withR (by decide), bI_s, if_neg (show ¬ (2 : Nat) = 0 by decide), if_neg (show ¬ (2 : Nat) = 1 by decide)]
theorem fitsR (h : YR ft n v eg s) (hc : c < n) (hl : 0 ≤ l ∧ l < 4) : RUN d mX9_fits [vr 32 0, vi (c : Int), vi l] s = some (some (vi (if fitB (ft 5 c) (ft 1 c) l = true then 1 else 0)), s) := by
  have h6 := h.2.1.1
  have hc6 : c < 6 := by omega
  rw [qX9_fits, if_pos (inbN hc6), Int.toNat_natCast, YR_kd h hc, r1 hc6, if_pos (inbN (by omega)), Int.toNat_natCast, YR_row h hc (by omega), wrem_eq (by omega) (by omega)]
  unfold fitB
  by_cases h2 : ft 5 c = 2
  · rw [if_pos h2]; simp [h2]
  rw [if_neg h2]
  by_cases h4 : ft 5 c = 4
  · rw [if_pos h4]; simp [h4]
  rw [if_neg h4]
  by_cases h5 : ft 5 c = 5
  · rw [if_pos h5]
    by_cases hq : l = 3
    · rw [if_pos hq]; simp [h5, hq]
    · rw [if_neg hq]; simp [h5, hq]
  rw [if_neg h5]
  by_cases hq : l.tmod 2 = ft 1 c
  · rw [if_pos hq]; simp [h2, h4, h5, hq]
  · rw [if_neg hq]; simp [h2, h4, h5, hq]
theorem longR (h : YR ft n v eg s) (hc : c < n) : RUN d mX9_isLong [vr 32 0, vi (c : Int)] s = some (some (vi (if longB (ft 5 c) = true then 1 else 0)), s) := by
  have h6 := h.2.1.1
  have hc6 : c < 6 := by omega
  rw [qX9_isLong, if_pos (inbN hc6), Int.toNat_natCast, YR_kd h hc]
  unfold longB
  by_cases h3 : ft 5 c = 3
  · rw [if_pos h3]; simp [h3]
  rw [if_neg h3, if_pos (inbN hc6)]
  by_cases h5 : ft 5 c = 5
  · rw [if_pos h5]; simp [h5]
  · rw [if_neg h5]; simp [h3, h5]
theorem drawsR (h : YR ft n v eg s) (hc : c < n) : ∃ s', RUN (d + 44) mX9_draws [vr 32 0, vi (c : Int), vi l, vi m, vi 0] s = some (some (vi (if drawB ft (akS v ft) eg c l m = true then 1 else 0)), s') ∧ frK s s' := by
  have h6 := h.2.1.1
  have hc6 : c < 6 := by omega
  have hk := (h.2.1.2 c hc).2.2.2.2.2
  rw [qX9_draws, if_pos (inbN hc6), Int.toNat_natCast, YR_kd h hc, r0 hc6, if_pos (inbN (by omega)), Int.toNat_natCast, YR_row h hc (by omega)]
  have fin : ∀ z5 : PV, (ft 5 c ≠ 2) → (ft 5 c ≠ 4) → (ft 5 c ≠ 5 ∨ 4 < ft 0 c) → ∃ s', EV (d + 44) mX9_draws (50, [vr 32 0, vi (c : Int), vi l, vi m, vi 0, z5], [], s) = some (some (vi (if drawB ft (akS v ft) eg c l m = true then 1 else 0)), s') ∧ frK s s' := by
    intro z5 h2 h4 h5
    have eD : drawB ft (akS v ft) eg c l m = (eg || decide (akS v ft 1 c l m 0 ≠ 0)) := by
      unfold drawB
      rw [if_neg h2, if_neg h4]
      rcases h5 with h5 | h5 <;> simp [h5]
    rw [qX9_draws_50, h.2.2.2, eD]
    cases eg with
    | true =>
      rw [if_neg (show ¬ egI true = 0 by decide)]
      exact ⟨s, rfl, frK_refl s⟩
    | false =>
      obtain ⟨s1, a1, a2⟩ := asksR (d := d) (k := 1) (l := l) (m := m) (a := 0) h hc (by omega)
      rw [if_pos (show egI false = 0 from rfl), show RUN (d + 43) mX9_asks [vr 32 0, vi 1, vi (c : Int), vi l, vi m, vi 0] s = _ from a1, bI_s]
      refine ⟨s1, ?_, a2⟩
      have eV : askV 1 (akS v ft 1 c l m 0) = if akS v ft 1 c l m 0 = 0 then 0 else 1 := rfl
      rw [eV]
      by_cases hz : akS v ft 1 c l m 0 = 0
      · rw [if_pos hz, if_neg (by decide)]; simp [hz]
      · rw [if_neg hz, if_pos rfl]; simp [hz]
  by_cases h2 : ft 5 c = 2
  · rw [if_pos h2, qX9_draws_20, if_neg (by omega)]
    refine ⟨s, ?_, frK_refl s⟩
    unfold drawB
    rw [if_pos h2]; rfl
  rw [if_neg h2]
  by_cases h4 : ft 5 c = 4
  · rw [if_pos h4, qX9_draws_20, if_pos h4]
    refine ⟨s, ?_, frK_refl s⟩
    unfold drawB
    rw [if_neg h2, if_pos h4]; rfl
  rw [if_neg h4]
  by_cases h5 : ft 5 c = 5
  · rw [if_pos h5]
    by_cases h0 : 4 < ft 0 c
    · rw [if_pos h0]; exact fin _ h2 h4 (Or.inr h0)
    · rw [if_neg h0]
      refine ⟨s, ?_, frK_refl s⟩
      unfold drawB
      rw [if_neg h2, if_neg h4]
      simp [h5, h0]
  · rw [if_neg h5]; exact fin _ h2 h4 (Or.inl h5)
theorem takesR (h : YR ft n v eg s) (hc : c < n) : ∃ s', RUN (d + 44) mX9_takesOf [vr 32 0, vi (c : Int), vi l, vi m, vi a] s = some (some (vi (takeI ft (akS v ft) c l m a)), s') ∧ frK s s' := by
  have h6 := h.2.1.1
  have hc6 : c < 6 := by omega
  have hf := h.2.1.2 c hc
  obtain ⟨s1, a1, a2⟩ := asksR (d := d) (k := 0) (l := l) (m := m) (a := a) h hc (by omega)
  have h1 := YR_fr h (frZ_K a2)
  have hr := clampI_rg (hi := 40) (x := akS v ft 0 c l m a) (by decide)
  have eV : askV 0 (akS v ft 0 c l m a) = clampI 40 (akS v ft 0 c l m a) := rfl
  refine ⟨s1, ?_, a2⟩
  rw [qX9_takesOf, if_pos (inbN hc6), show RUN (d + 43) mX9_asks [vr 32 0, vi 0, vi (c : Int), vi l, vi m, vi a] s = _ from a1, bI_s, eV, r4 hc6, if_pos (inbN (by omega)), Int.toNat_natCast, Int.toNat_natCast, YR_kd h hc, YR_row h1 hc (by omega), r0 hc6, if_pos (inbN (by omega)), Int.toNat_natCast, YR_row h1 hc (by omega)]
  unfold takeI
  generalize clampI 40 (akS v ft 0 c l m a) = cl at hr ⊢
  rw [w32_id (x := cl + ft 4 c) (by omega) (by omega), w32_id (x := 2 * (cl + ft 4 c)) (by omega) (by omega), w32_id (x := 2 * (cl + ft 4 c) + ft 0 c) (by omega) (by omega), w32_id (x := cl + ft 4 c + 10) (by omega) (by omega)]
  simp only [qX9_takesOf_78, qX9_takesOf_101]
  rw [wdiv_eq (by omega) (by omega)]
  unfold minT
  have e : ∀ y : Int, (if y < 1 then some (some (vi 1), s1) else some (some (vi y), s1)) = some (some (vi (if y < 1 then 1 else y)), s1) := by
    intro y
    by_cases q : y < 1
    · rw [if_pos q, if_pos q]
    · rw [if_neg q, if_neg q]
  simp only [e]
  by_cases k1 : ft 5 c = 1
  · rw [if_pos k1, if_pos k1]
  rw [if_neg k1, if_neg k1]
  by_cases k3 : ft 5 c = 3
  · rw [if_pos k3, if_pos k3]
  rw [if_neg k3, if_neg k3]
  by_cases k2 : ft 5 c = 2
  · rw [if_pos k2, if_pos (Or.inl k2)]
  rw [if_neg k2]
  by_cases k4 : ft 5 c = 4
  · rw [if_pos k4, if_pos (Or.inr k4)]
  rw [if_neg k4, if_neg (show ¬ (ft 5 c = 2 ∨ ft 5 c = 4) by omega)]
  by_cases k5 : ft 5 c = 5
  · rw [if_pos k5, if_pos k5]
  rw [if_neg k5, if_neg k5]
end RL
