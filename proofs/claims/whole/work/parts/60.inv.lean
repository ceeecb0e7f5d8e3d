/-! LAW 1: class and reference side by side: the invariant -/
def ftRf (ft : Ft) (n : Nat) (s : Sg) : Prop := s 32 0 9 = (n : Int) ∧ ∀ c, c < n → (∀ f, f < 5 → s 37 0 (5 * c + f) = ft f c) ∧ s 36 0 c = ft 5 c
def txR1 (t : Nat) (v : Sem × Sem × Sem) (s : Sg) : Prop := ∃ (b : Nat → Int) (sz : Nat), s 34 0 t = (sz : Int) ∧ sz ≤ 160 ∧ (∀ i, i < sz → s 33 0 (160 * t + i) = b i) ∧ (∀ i, i < sz → 0 ≤ b i ∧ b i ≤ 255) ∧ txtP b sz = .inr v
def txB (sm : Nat → Sem × Sem × Sem) (tn t : Nat) (s : Sg) : Prop := 1 ≤ tn ∧ tn ≤ 6 ∧ t < tn ∧ s 4 0 4 = (tn : Int) ∧ s 4 0 5 = (t : Int) ∧ (∀ t', t' < tn → ∀ k, k < 3 → stands t' k (semN (sm t') (k : Int)) s) ∧ s 32 0 3 = (tn : Int) ∧ s 32 0 4 = (t : Int) ∧ ∀ t', t' < tn → txR1 t' (sm t') s
def tpB (s : Sg) : Prop := ∃ (b : Nat → Int) (sz : Nat), sz ≤ 160 ∧ s 11 0 2 = (sz : Int) ∧ s 32 0 6 = (sz : Int) ∧ ∀ i, i < sz → s 12 0 i = b i ∧ s 35 0 i = b i ∧ 0 ≤ b i ∧ b i ≤ 255
def sh1 (j : Nat) (s : Sg) : Prop := (-1 ≤ s 30 j 1 ∧ s 30 j 1 ≤ 2) ∧ (0 ≤ s 30 j 2 ∧ s 30 j 2 ≤ 40) ∧ (s 30 j 1 = -1 → s 48 0 j = 0) ∧ (s 30 j 1 ≠ -1 → s 48 0 j = 1 ∧ s 49 0 j = s 30 j 1 ∧ s 50 0 j = s 30 j 2 ∧ ∀ i : Nat, (i : Int) < s 30 j 2 → s 51 0 (40 * j + i) = s 31 j i)
def shB (s : Sg) : Prop := ∀ j, j < 4 → sh1 j s
def kpB (n tn : Nat) (s : Sg) : Prop := s 32 0 38 = s 26 0 1 ∧ (s 26 0 1 = -1 ∨ ∃ kn kr : Nat, s 26 0 1 = (kn : Int) ∧ kn ≤ n ∧ s 26 0 2 = (kr : Int) ∧ s 32 0 39 = (kr : Int) ∧ kr < tn ∧ ∀ c, c < kn → ∀ f, f < 5 → s 28 f c = s 47 0 (5 * c + f) ∧ 0 ≤ s 28 f c ∧ s 28 f c ≤ sv 52 f)
def INVp (ft : Ft) (n : Nat) (sm : Nat → Sem × Sem × Sem) (tn t : Nat) (s : Sg) : Prop := (ftC ft n s ∧ ftRf ft n s ∧ ftOk ft n) ∧ txB sm tn t s ∧ (s 13 0 14 = 0 ∧ s 32 0 25 = 0) ∧ tpB s ∧ shB s ∧ kpB n tn s
def INV (s : Sg) : Prop := ∃ ft n sm tn t, INVp ft n sm tn t s
section IV
variable {ft : Ft} {n : Nat} {sm : Nat → Sem × Sem × Sem} {tn t : Nat} {s s' : Sg}
theorem inv_YC (h : INVp ft n sm tn t s) : YC ft n (sm t) false s := by
  obtain ⟨⟨h1, h2, h3⟩, ⟨x1, x2, x3, x4, x5, x6, x7, x8, x9⟩, ⟨e1, e2⟩, h5⟩ := h
  exact ⟨h1, h3, ⟨t, tn, x5, x3, x4, x2, x6 t x3⟩, e1⟩
theorem inv_YR (h : INVp ft n sm tn t s) : YR ft n (sm t) false s := by
  obtain ⟨⟨h1, h2, h3⟩, ⟨x1, x2, x3, x4, x5, x6, x7, x8, x9⟩, ⟨e1, e2⟩, h5⟩ := h
  obtain ⟨b, sz, y1, y2, y3, y4, y5⟩ := x9 t x3
  exact ⟨h2, h3, ⟨t, b, sz, x8, by omega, y1, y2, y3, y4, y5⟩, e2⟩
/-- the cells that the invariant speaks of are as they were -/
def frI (s s' : Sg) : Prop := (∀ c, c = 1 ∨ c = 3 ∨ c = 4 ∨ c = 6 ∨ c = 8 ∨ c = 12 ∨ c = 26 ∨ c = 28 ∨ c = 30 ∨ c = 31 ∨ c = 33 ∨ c = 34 ∨ c = 35 ∨ c = 36 ∨ c = 37 ∨ c = 47 ∨ c = 48 ∨ c = 49 ∨ c = 50 ∨ c = 51 → s' c = s c) ∧ s' 11 0 2 = s 11 0 2 ∧ s' 13 0 14 = s 13 0 14 ∧ ∀ i, i = 3 ∨ i = 4 ∨ i = 6 ∨ i = 9 ∨ i = 25 ∨ i = 38 ∨ i = 39 → s' 32 0 i = s 32 0 i
theorem frI_refl (s : Sg) : frI s s := ⟨fun _ _ => rfl, rfl, rfl, fun _ _ => rfl⟩
theorem frI_tr {s1 s2 s3 : Sg} (h1 : frI s1 s2) (h2 : frI s2 s3) : frI s1 s3 := ⟨fun c h => (h2.1 c h).trans (h1.1 c h), h2.2.1.trans h1.2.1, h2.2.2.1.trans h1.2.2.1, fun i h => (h2.2.2.2 i h).trans (h1.2.2.2 i h)⟩
theorem INV_fr (h : INVp ft n sm tn t s) (hf : frI s s') : INVp ft n sm tn t s' := by
  obtain ⟨f1, f2, f3, f4⟩ := hf
  obtain ⟨⟨⟨a1, a2⟩, ⟨b1, b2⟩, h3⟩, ⟨x1, x2, x3, x4, x5, x6, x7, x8, x9⟩, ⟨e1, e2⟩, ⟨b, sz, t1, t2, t3, t4⟩, hs, k1, k2⟩ := h
  refine ⟨⟨⟨?_, ?_⟩, ⟨?_, ?_⟩, h3⟩, ⟨x1, x2, x3, ?_, ?_, ?_, ?_, ?_, ?_⟩, ⟨?_, ?_⟩, ⟨b, sz, t1, ?_, ?_, ?_⟩, ?_, ?_, ?_⟩
  · rw [f1 1 (by omega)]; exact a1
  · rw [f1 3 (by omega)]; exact a2
  · rw [f4 9 (by omega)]; exact b1
  · rw [f1 37 (by omega), f1 36 (by omega)]; exact b2
  · rw [f1 4 (by omega)]; exact x4
  · rw [f1 4 (by omega)]; exact x5
  · exact fun t' ht k hk => stands_fr (x6 t' ht k hk) (f1 6 (by omega)) (f1 8 (by omega))
  · rw [f4 3 (by omega)]; exact x7
  · rw [f4 4 (by omega)]; exact x8
  · intro t' ht
    unfold txR1
    rw [f1 33 (by omega), f1 34 (by omega)]; exact x9 t' ht
  · rw [f3]; exact e1
  · rw [f4 25 (by omega)]; exact e2
  · rw [f2]; exact t2
  · rw [f4 6 (by omega)]; exact t3
  · rw [f1 12 (by omega), f1 35 (by omega)]; exact t4
  · intro j hj
    unfold sh1
    rw [f1 30 (by omega), f1 48 (by omega), f1 49 (by omega), f1 50 (by omega), f1 51 (by omega), f1 31 (by omega)]; exact hs j hj
  · rw [f4 38 (by omega), f1 26 (by omega)]; exact k1
  · rw [f1 26 (by omega), f4 39 (by omega), f1 28 (by omega), f1 47 (by omega)]; exact k2
/-- the two answer alike, one behind the other -/
def PAIR (mc mr : Md) (as : List PV) : Prop := ∀ s, INV s → ∃ r s1 s2, RUN 60 mc (vr 0 0 :: as) s = some (some r, s1) ∧ RUN 60 mr (vr 32 0 :: as) s1 = some (some r, s2) ∧ INV s2
/-- both only look -/
theorem pair_ro {mc mr : Md} {as : List PV} (r : Ft → Nat → (Nat → Sem × Sem × Sem) → Nat → Nat → PV) (hc : ∀ ft n sm tn t s, INVp ft n sm tn t s → ∃ s', RUN 60 mc (vr 0 0 :: as) s = some (some (r ft n sm tn t), s') ∧ frI s s') (hr : ∀ ft n sm tn t s, INVp ft n sm tn t s → ∃ s', RUN 60 mr (vr 32 0 :: as) s = some (some (r ft n sm tn t), s') ∧ frI s s') : PAIR mc mr as := by
  intro s ⟨ft, n, sm, tn, t, h⟩
  obtain ⟨s1, a1, a2⟩ := hc ft n sm tn t s h
  have h1 := INV_fr h a2
  obtain ⟨s2, b1, b2⟩ := hr ft n sm tn t s1 h1
  exact ⟨_, s1, s2, a1, b1, ft, n, sm, tn, t, INV_fr h1 b2⟩
theorem frI_A (h : frA s s') : frI s s' := ⟨fun c hc => h c (by omega) (by omega), by rw [h 11 (by decide) (by decide)], by rw [h 13 (by decide) (by decide)], fun i _ => by rw [h 32 (by decide) (by decide)]⟩
theorem frI_K (h : frK s s') : frI s s' := ⟨fun c hc => h.1 c (by omega), by rw [h.1 11 (by decide)], by rw [h.1 13 (by decide)], fun i hi => h.2 i (by omega)⟩
theorem frI_W (h : frW s s') : frI s s' := ⟨fun c hc => h.1 c (by omega) (by omega) (by omega) (by omega) (by omega) (by omega) (by omega), by rw [h.1 11 (by decide) (by decide) (by decide) (by decide) (by decide) (by decide) (by decide)], by rw [h.1 13 (by decide) (by decide) (by decide) (by decide) (by decide) (by decide) (by decide)], fun i hi => h.2 i (by omega)⟩
theorem frI_L (h : frL s s') : frI s s' := ⟨fun c hc => h.1 c (by omega) (by omega) (by omega) (by omega) (by omega) (by omega) (by omega) (by omega) (by omega), by rw [h.1 11 (by decide) (by decide) (by decide) (by decide) (by decide) (by decide) (by decide) (by decide) (by decide)], h.2, fun i _ => by rw [h.1 32 (by decide) (by decide) (by decide) (by decide) (by decide) (by decide) (by decide) (by decide) (by decide)]⟩
/-- a group that the invariant doesn't speak of -/
theorem frI_c {c j i : Nat} {x : Int} (hc : c = 9 ∨ c = 10 ∨ c = 14 ∨ (15 ≤ c ∧ c ≤ 25) ∨ (38 ≤ c ∧ c ≤ 46)) (h : frI s s') : frI s (up s' c j i x) := ⟨fun q hq => by rw [up_c (by omega)]; exact h.1 q hq, by rw [up_c (by omega)]; exact h.2.1, by rw [up_c (by omega)]; exact h.2.2.1, fun q hq => by rw [up_c (by omega)]; exact h.2.2.2 q hq⟩
theorem frI_14 (h : ∀ c, c ≠ 14 → s' c = s c) : frI s s' := ⟨fun c hc => h c (by omega), by rw [h 11 (by decide)], by rw [h 13 (by decide)], fun i _ => by rw [h 32 (by decide)]⟩
theorem hasC {x : Int} {d : Nat} (h : INVp ft n sm tn t s) : RUN d mX1_has [vr 1 0, vi x] s = some (some (vi (if 0 ≤ x ∧ x < (n : Int) then 1 else 0)), s) := YC_has (inv_YC h)
theorem carR {v : Sem × Sem × Sem} {eg : Bool} {x : Int} {d : Nat} (h : YR ft n v eg s) : RUN (d + 1) mX9_isCar [vr 32 0, vi x] s = some (some (vi (if 0 ≤ x ∧ x < (n : Int) then 1 else 0)), s) := by
  have h6 := h.2.1.1
  rw [qX9_isCar, in_ok, bI_s, h.1.1, w32_id (by omega) (by omega), if_pos b01r]
  by_cases q : 0 ≤ x ∧ x < (n : Int)
  · rw [if_pos q, if_pos (by omega)]
  · rw [if_neg q, if_neg (by omega)]
end IV
