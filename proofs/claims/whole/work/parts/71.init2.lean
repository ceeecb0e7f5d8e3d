/-! INIT 2: what the constructors leave: the class lays and reads the first text, the reference spells it -/
section IN
variable {s s0 : Sg} {d : Nat}
theorem ch58 : ∀ k : Nat, k < 32 → wi2c (wand (sv 58 k) 255) = sv 58 k ∧ 0 ≤ sv 58 k ∧ sv 58 k ≤ 255 ∧ sv 58 k = by0 k := by decide +kernel
theorem char0 {k : Nat} (hk : k < 32) : RUN (d + 4) mJ0_charAt_5068e [vr 55 0, vi (k : Int)] s = some (some (vi (by0 k)), s) := by
  obtain ⟨h1, h2, h3, h4⟩ := ch58 k hk
  rw [qJ0_charAt_5068e, qJ0_isLatin1_aae02, bI_s, if_neg (by decide), qJ1_charAt_3b067, qJ0_checkIndex_df160, qJ3_checkIndex_8e157, if_neg (by omega), if_pos (by omega), bI_s, bV_s, Int.toNat_natCast, h1, if_pos (inbN hk), if_pos ⟨h2, by omega⟩, bI_s, if_pos ⟨h2, by omega⟩, h4]
theorem len55 : RUN (d + 1) mJ0_length_8abf5 [vr 55 0] s = some (some (vi 32), s) := by
  rw [qJ0_length_8abf5, qJ0_coder_7d493, bI_s]
  rfl
theorem lay0 : ∀ (m k : Nat) (s : Sg), k + m = 32 → s 11 0 2 = (k : Int) → (∀ i, i < k → s 12 0 i = by0 i) → (∀ c j i, ¬ (c = 11 ∧ j = 0 ∧ i = 2) → c ≠ 12 → s c j i = s0 c j i) → ∃ s', EV (d + 5) mX4_lay (2, [vr 11 0, vr 55 0, vi (k : Int)], [], s) = some (none, s') ∧ bytC by0 32 s' ∧ (∀ c j i, ¬ (c = 11 ∧ j = 0 ∧ i = 2) → c ≠ 12 → s' c j i = s0 c j i) := by
  intro m
  induction m with
  | zero =>
    intro k s hk h2 hb hf
    have hk : k = 32 := by omega
    subst hk
    rw [qX4_lay_2, len55, bI_s, if_neg (by decide)]
    refine ⟨s, rfl, ⟨h2, by decide, hb, fun i hi => ?_⟩, hf⟩
    obtain ⟨h1, h2, h3, h4⟩ := ch58 i hi
    rw [← h4]; exact ⟨h2, h3⟩
  | succ m ih =>
    intro k s hk h2 hb hf
    rw [qX4_lay_2, len55, bI_s, if_pos (by omega), char0 (by omega), bI_s, qX4_add, h2, if_pos (by omega), if_pos (inbN (by omega)), bI_s, Int.toNat_natCast, w32_id (by omega) (by omega), show (k : Int) + 1 = ((k + 1 : Nat) : Int) by omega]
    refine ih (k + 1) _ (by omega) (by rw [up_c (by decide), up_hit]) (fun i hi => ?_) (fun c j i h1 hc => ?_)
    · by_cases e : i = k
      · rw [e, up_hit]
      · rw [up_i e, up_c (by decide)]; exact hb i (by omega)
    · rw [up_c hc, up_ap, if_neg (fun z => h1 z)]; exact hf c j i h1 hc
def sg0 : Sg := fun c j i => if (c = 26 ∧ j = 0 ∧ i = 1) ∨ (c = 30 ∧ i = 1) ∨ (c = 32 ∧ j = 0 ∧ i = 38) then -1 else 0
/-- class: lay, readText, empty -/
theorem initC : ∃ s1 s2 s3 r v0 v1 v2, txtP by0 32 = .inr (v0, v1, v2) ∧ RUN 60 mX4_lay [vr 11 0, vr 55 0] sg0 = some (none, s1) ∧ RUN 60 mX4_readText [vr 11 0] s1 = some (some (vi r), s2) ∧ RUN 60 mX4_empty [vr 11 0] s2 = some (none, s3) ∧ s3 4 0 4 = 1 ∧ s3 11 0 2 = 0 ∧ stands 0 0 v0 s3 ∧ stands 0 1 v1 s3 ∧ stands 0 2 v2 s3 ∧ (∀ c j i, c ≠ 11 → c ≠ 12 → c ≠ 6 → c ≠ 8 → ¬ (c = 4 ∧ j = 0 ∧ (i = 6 ∨ i = 4)) → s3 c j i = sg0 c j i) := by
  obtain ⟨s1, a1, a2, a3⟩ := lay0 (d := 55) (s0 := sg0) 32 0 sg0 (by omega) rfl (fun i hi => by omega) (fun _ _ _ _ _ => rfl)
  have h4 : s1 4 0 4 = ((0 : Nat) : Int) := by rw [a3 4 0 4 (by omega) (by omega)]; rfl
  have ht := textC (d := 60) (t := 0) (by omega) a2 h4 (by omega)
  have hok := txt0_ok
  cases hx : txtP by0 32 with
  | inl f =>
    rw [hx] at hok
    exact Bool.noConfusion hok
  | inr v =>
    obtain ⟨v0, v1, v2⟩ := v
    obtain ⟨s2, b1, b2, b3, b4, b5, b6⟩ := ht.2 v0 v1 v2 hx
    refine ⟨s1, s2, up s2 11 0 2 0, _, v0, v1, v2, rfl, ?_, b1, qX4_empty 60 s2, ?_, up_hit _ _ _ _ _, ?_, ?_, ?_, fun c j i h1 h2 h3 h4 h5 => ?_⟩
    · rw [qX4_lay]; exact a1
    · rw [up_c (by decide), b2]; rfl
    · exact stands_fr b3 (up_c (by decide)) (up_c (by decide))
    · exact stands_fr b4 (up_c (by decide)) (up_c (by decide))
    · exact stands_fr b5 (up_c (by decide)) (up_c (by decide))
    · rw [up_c h1, b6 c j i (fun z => h1 z.1) h5 (fun z => h3 z.1) (fun z => h4 z.1)]
      exact a3 c j i (fun z => h1 z.1) h2
/-- the reference: four times eight letters -/
theorem spell1 {k : Nat} (hk : k + 7 < 960) (x2 x3 x4 x5 x6 x7 x8 x9 : Int) : ∃ s', RUN d mX9_spell [vr 32 0, vi (k : Int), vi x2, vi x3, vi x4, vi x5, vi x6, vi x7, vi x8, vi x9] s = some (none, s') ∧ s' 33 0 k = x2 ∧ s' 33 0 (k + 1) = x3 ∧ s' 33 0 (k + 2) = x4 ∧ s' 33 0 (k + 3) = x5 ∧ s' 33 0 (k + 4) = x6 ∧ s' 33 0 (k + 5) = x7 ∧ s' 33 0 (k + 6) = x8 ∧ s' 33 0 (k + 7) = x9 ∧ (∀ i, ¬ (k ≤ i ∧ i < k + 8) → s' 33 0 i = s 33 0 i) ∧ (∀ c, c ≠ 33 → s' c = s c) := by
  have e : ∀ q : Nat, q ≤ 7 → w32 ((k : Int) + (q : Int)) = ((k + q : Nat) : Int) := fun q hq => by rw [w32_id (by omega) (by omega)]; omega
  have e1 := e 1 (by omega)
  have e2 := e 2 (by omega)
  have e3 := e 3 (by omega)
  have e4 := e 4 (by omega)
  have e5 := e 5 (by omega)
  have e6 := e 6 (by omega)
  have e7 := e 7 (by omega)
  rw [qX9_spell, show w32 ((k : Int) + 1) = _ from e1, show w32 ((k : Int) + 2) = _ from e2, show w32 ((k : Int) + 3) = _ from e3, show w32 ((k : Int) + 4) = _ from e4, show w32 ((k : Int) + 5) = _ from e5, show w32 ((k : Int) + 6) = _ from e6, show w32 ((k : Int) + 7) = _ from e7, if_pos (inbN (by omega)), if_pos (inbN (by omega)), if_pos (inbN (by omega)), if_pos (inbN (by omega)), if_pos (inbN (by omega)), if_pos (inbN (by omega)), if_pos (inbN (by omega)), if_pos (inbN (by omega))]
  simp only [Int.toNat_natCast]
  refine ⟨_, rfl, ?_, ?_, ?_, ?_, ?_, ?_, ?_, ?_, fun i hi => ?_, fun c hc => ?_⟩
  · rw [up_i (by omega), up_i (by omega), up_i (by omega), up_i (by omega), up_i (by omega), up_i (by omega), up_i (by omega), up_hit]
  · rw [up_i (by omega), up_i (by omega), up_i (by omega), up_i (by omega), up_i (by omega), up_i (by omega), up_hit]
  · rw [up_i (by omega), up_i (by omega), up_i (by omega), up_i (by omega), up_i (by omega), up_hit]
  · rw [up_i (by omega), up_i (by omega), up_i (by omega), up_i (by omega), up_hit]
  · rw [up_i (by omega), up_i (by omega), up_i (by omega), up_hit]
  · rw [up_i (by omega), up_i (by omega), up_hit]
  · rw [up_i (by omega), up_hit]
  · rw [up_hit]
  · rw [up_i (by omega), up_i (by omega), up_i (by omega), up_i (by omega), up_i (by omega), up_i (by omega), up_i (by omega), up_i (by omega)]
  · rw [up_c hc, up_c hc, up_c hc, up_c hc, up_c hc, up_c hc, up_c hc, up_c hc]
end IN
