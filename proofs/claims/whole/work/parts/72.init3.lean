/-! INIT 3: both made: the invariant -/
theorem chunk {f : Nat → Int} {k : Nat} (h0 : f k = by0 k) (h1 : f (k + 1) = by0 (k + 1)) (h2 : f (k + 2) = by0 (k + 2)) (h3 : f (k + 3) = by0 (k + 3)) (h4 : f (k + 4) = by0 (k + 4)) (h5 : f (k + 5) = by0 (k + 5)) (h6 : f (k + 6) = by0 (k + 6)) (h7 : f (k + 7) = by0 (k + 7)) : ∀ i, k ≤ i → i < k + 8 → f i = by0 i := by
  intro i a b
  have : i = k ∨ i = k + 1 ∨ i = k + 2 ∨ i = k + 3 ∨ i = k + 4 ∨ i = k + 5 ∨ i = k + 6 ∨ i = k + 7 := by omega
  rcases this with rfl | rfl | rfl | rfl | rfl | rfl | rfl | rfl
  · exact h0
  · exact h1
  · exact h2
  · exact h3
  · exact h4
  · exact h5
  · exact h6
  · exact h7
theorem init_all : ∃ s1 s2 s3 r s4 s5 s6 s7, RUN 60 mX4_lay [vr 11 0, vr 55 0] sg0 = some (none, s1) ∧ RUN 60 mX4_readText [vr 11 0] s1 = some (some (vi r), s2) ∧ RUN 60 mX4_empty [vr 11 0] s2 = some (none, s3) ∧ (∀ c j i, c ≠ 11 → c ≠ 12 → c ≠ 6 → c ≠ 8 → c ≠ 4 → s3 c j i = sg0 c j i) ∧
    RUN 60 mX9_spell [vr 32 0, vi 0, vi 116, vi 97, vi 107, vi 101, vi 115, vi 32, vi 52, vi 32] s3 = some (none, s4) ∧ RUN 60 mX9_spell [vr 32 0, vi 8, vi 59, vi 32, vi 102, vi 111, vi 114, vi 119, vi 97, vi 114] s4 = some (none, s5) ∧ RUN 60 mX9_spell [vr 32 0, vi 16, vi 100, vi 115, vi 32, vi 49, vi 32, vi 59, vi 32, vi 109] s5 = some (none, s6) ∧ RUN 60 mX9_spell [vr 32 0, vi 24, vi 105, vi 110, vi 100, vi 115, vi 32, vi 49, vi 32, vi 59] s6 = some (none, s7) ∧ (∀ c, c ≠ 33 → s7 c = s3 c) ∧ INV (up (up s7 34 0 0 32) 32 0 3 1) := by
  obtain ⟨s1, s2, s3, r, v0, v1, v2, hx, a1, a2, a3, a4, a5, a6, a7, a8, a9⟩ := initC
  obtain ⟨s4, b1, p0, p1, p2, p3, p4, p5, p6, p7, b2, b3⟩ := spell1 (s := s3) (d := 60) (k := 0) (by omega) 116 97 107 101 115 32 52 32
  obtain ⟨s5, c1, q0, q1, q2, q3, q4, q5, q6, q7, c2, c3⟩ := spell1 (s := s4) (d := 60) (k := 8) (by omega) 59 32 102 111 114 119 97 114
  obtain ⟨s6, d1, r0, r1, r2, r3, r4, r5, r6, r7, d2, d3⟩ := spell1 (s := s5) (d := 60) (k := 16) (by omega) 100 115 32 49 32 59 32 109
  obtain ⟨s7, e1, t0, t1, t2, t3, t4, t5, t6, t7, e2, e3⟩ := spell1 (s := s6) (d := 60) (k := 24) (by omega) 105 110 100 115 32 49 32 59
  have k0 := chunk (f := s4 33 0) (k := 0) p0 p1 p2 p3 p4 p5 p6 p7
  have k1 := chunk (f := s5 33 0) (k := 8) q0 q1 q2 q3 q4 q5 q6 q7
  have k2 := chunk (f := s6 33 0) (k := 16) r0 r1 r2 r3 r4 r5 r6 r7
  have k3 := chunk (f := s7 33 0) (k := 24) t0 t1 t2 t3 t4 t5 t6 t7
  have hf : ∀ c, c ≠ 33 → s7 c = s3 c := fun c hc => by rw [e3 c hc, d3 c hc, c3 c hc, b3 c hc]
  have ha : ∀ c j i, c ≠ 11 → c ≠ 12 → c ≠ 6 → c ≠ 8 → c ≠ 4 → s3 c j i = sg0 c j i := fun c j i h1 h2 h3 h4 h5 => a9 c j i h1 h2 h3 h4 (fun z => h5 z.1)
  have h33 : ∀ i, i < 32 → s7 33 0 i = by0 i := by
    intro i hi
    by_cases g3 : 24 ≤ i
    · exact k3 i g3 (by omega)
    rw [e2 i (by omega)]
    by_cases g2 : 16 ≤ i
    · exact k2 i g2 (by omega)
    rw [d2 i (by omega)]
    by_cases g1 : 8 ≤ i
    · exact k1 i g1 (by omega)
    rw [c2 i (by omega)]
    exact k0 i (by omega) (by omega)
  refine ⟨s1, s2, s3, r, s4, s5, s6, s7, a1, a2, a3, ha, b1, c1, d1, e1, hf, fun _ _ => 0, 0, fun _ => (v0, v1, v2), 1, 0, ?_⟩
  obtain ⟨s8, hs8, g1, g2, g3, g4⟩ : ∃ s8, up (up s7 34 0 0 32) 32 0 3 1 = s8 ∧ s8 34 0 0 = 32 ∧ s8 32 0 3 = 1 ∧ (∀ c, c ≠ 32 → c ≠ 34 → s8 c = s7 c) ∧ (∀ i, i ≠ 3 → s8 32 0 i = s7 32 0 i) := ⟨_, rfl, by rw [up_c (by decide), up_hit], up_hit _ _ _ _ _, fun c h1 h2 => by rw [up_c h1, up_c h2], fun i hi => by rw [up_i hi, up_c (by decide)]⟩
  rw [hs8]
  have o : ∀ c j i, c ≠ 11 → c ≠ 12 → c ≠ 6 → c ≠ 8 → c ≠ 4 → c ≠ 32 → c ≠ 33 → c ≠ 34 → s8 c j i = sg0 c j i := fun c j i h1 h2 h3 h4 h5 h6 h7 h8 => by rw [g3 c h6 h8, hf c h7]; exact ha c j i h1 h2 h3 h4 h5
  have o32 : ∀ i, i ≠ 3 → s8 32 0 i = sg0 32 0 i := fun i hi => by rw [g4 i hi, hf 32 (by decide)]; exact ha 32 0 i (by decide) (by decide) (by decide) (by decide) (by decide)
  have o6 : s8 6 = s3 6 := by rw [g3 6 (by decide) (by decide), hf 6 (by decide)]
  have o8 : s8 8 = s3 8 := by rw [g3 8 (by decide) (by decide), hf 8 (by decide)]
  have o4 : s8 4 = s3 4 := by rw [g3 4 (by decide) (by decide), hf 4 (by decide)]
  refine ⟨⟨⟨?_, fun c hc => absurd hc (Nat.not_lt_zero c)⟩, ⟨?_, fun c hc => absurd hc (Nat.not_lt_zero c)⟩, ⟨Nat.zero_le 6, fun c hc => absurd hc (Nat.not_lt_zero c)⟩⟩, ⟨Nat.le_refl 1, by decide, by decide, ?_, ?_, fun t' ht k hk => ?_, g2, ?_, fun t' ht => ?_⟩, ⟨?_, ?_⟩, ⟨by0, 0, by decide, ?_, ?_, fun i hi => absurd hi (Nat.not_lt_zero i)⟩, fun j hj => ?_, ?_, Or.inl ?_⟩
  · exact o _ _ _ (by decide) (by decide) (by decide) (by decide) (by decide) (by decide) (by decide) (by decide)
  · exact o32 9 (by decide)
  · rw [o4, a4]; rfl
  · rw [o4, a9 4 0 5 (by decide) (by decide) (by decide) (by decide) (by omega)]; rfl
  · have : t' = 0 := by omega
    subst this
    have : k = 0 ∨ k = 1 ∨ k = 2 := by omega
    rcases this with rfl | rfl | rfl
    · exact stands_fr a6 o6 o8
    · exact stands_fr a7 o6 o8
    · exact stands_fr a8 o6 o8
  · exact o32 4 (by decide)
  · have : t' = 0 := by omega
    subst this
    refine ⟨by0, 32, g1, by decide, fun i hi => ?_, fun i hi => ?_, hx⟩
    · rw [g3 33 (by decide) (by decide), show 160 * 0 + i = i by omega]; exact h33 i hi
    · obtain ⟨_, h2, h3, h4⟩ := ch58 i hi
      rw [← h4]; exact ⟨h2, h3⟩
  · exact o 13 0 14 (by decide) (by decide) (by decide) (by decide) (by decide) (by decide) (by decide) (by decide)
  · exact o32 25 (by decide)
  · rw [g3 11 (by decide) (by decide), hf 11 (by decide), a5]; rfl
  · exact o32 6 (by decide)
  · have z1 : s8 30 j 1 = -1 := (o 30 j 1 (by decide) (by decide) (by decide) (by decide) (by decide) (by decide) (by decide) (by decide)).trans (if_pos (Or.inr (Or.inl ⟨rfl, rfl⟩)))
    have z2 : s8 30 j 2 = 0 := (o 30 j 2 (by decide) (by decide) (by decide) (by decide) (by decide) (by decide) (by decide) (by decide)).trans (if_neg (by omega))
    refine ⟨by omega, by omega, fun _ => ?_, fun z => absurd z1 z⟩
    exact (o 48 0 j (by decide) (by decide) (by decide) (by decide) (by decide) (by decide) (by decide) (by decide)).trans (if_neg (by omega))
  · rw [o32 38 (by decide), o 26 0 1 (by decide) (by decide) (by decide) (by decide) (by decide) (by decide) (by decide) (by decide)]
    rfl
  · exact o 26 0 1 (by decide) (by decide) (by decide) (by decide) (by decide) (by decide) (by decide) (by decide)
