/-! LAW 2: count, told, times, feed, force, set, car, taken -/
section P1
variable {ft : Ft} {n : Nat} {sm : Nat → Sem × Sem × Sem} {tn t : Nat} {s s' : Sg}
theorem p_count (x : Int) : PAIR mX8_count mX9_count [vi x] := by
  intro s ⟨ft, n, sm, tn, t, h⟩
  have h' := h
  obtain ⟨⟨⟨a1, a2⟩, ⟨b1, b2⟩, h3⟩, ⟨x1, x2, x3, x4, x5, x6, x7, x8, x9⟩, ⟨e1, e2⟩, ⟨b, sz, t1, t2, t3, t4⟩, hs, k1, k2⟩ := h
  rw [qX8_count]
  by_cases c0 : x = 0
  · refine ⟨vi (n : Int), s, s, ?_, ?_, ft, n, sm, tn, t, h'⟩
    · rw [if_pos c0, size_ok, bI_s, a1]
    · rw [qX9_count, if_pos c0, b1]
  rw [if_neg c0]
  by_cases c1 : x = 1
  · refine ⟨vi (tn : Int), s, s, ?_, ?_, ft, n, sm, tn, t, h'⟩
    · rw [if_pos c1, qX5_size, bI_s, x4]
    · rw [qX9_count, if_neg c0, if_pos c1, x7]
  rw [if_neg c1]
  by_cases c2 : x = 2
  · refine ⟨vi (sz : Int), s, s, ?_, ?_, ft, n, sm, tn, t, h'⟩
    · rw [if_pos c2, qX4_size, bI_s, t2]
    · rw [qX9_count, if_neg c0, if_neg c1, if_pos c2, t3]
  rw [if_neg c2]
  by_cases c3 : x = 3
  · refine ⟨vi (t : Int), s, s, ?_, ?_, ft, n, sm, tn, t, h'⟩
    · rw [if_pos c3, qX5_chosen, bI_s, x5]
    · rw [qX9_count, if_neg c0, if_neg c1, if_neg c2, if_pos c3, x8]
  refine ⟨vi (-2), s, s, ?_, ?_, ft, n, sm, tn, t, h'⟩
  · rw [if_neg c3]
  · rw [qX9_count, if_neg c0, if_neg c1, if_neg c2, if_neg c3]
theorem p_feed (x : Int) : PAIR mX8_feed mX9_feed [vi x] := by
  intro s ⟨ft, n, sm, tn, t, h⟩
  have h' := h
  obtain ⟨⟨⟨a1, a2⟩, ⟨b1, b2⟩, h3⟩, ⟨x1, x2, x3, x4, x5, x6, x7, x8, x9⟩, ⟨e1, e2⟩, ⟨b, sz, t1, t2, t3, t4⟩, hs, k1, k2⟩ := h
  by_cases hx : 0 ≤ x ∧ x ≤ 255
  · by_cases hz : sz < 160
    · obtain ⟨s1, hs1, f2, f12, ff⟩ : ∃ s1, up (up s 11 0 2 ((sz : Int) + 1)) 12 0 sz x = s1 ∧ s1 11 0 2 = ((sz + 1 : Nat) : Int) ∧ (∀ i, s1 12 0 i = if i = sz then x else s 12 0 i) ∧ (∀ c, c ≠ 11 → c ≠ 12 → s1 c = s c) := by
        refine ⟨_, rfl, ?_, fun i => ?_, fun c q1 q2 => by rw [up_c q2, up_c q1]⟩
        · rw [up_c (by decide), up_hit]; omega
        · rw [up_f, up_c (by decide)]; rfl
      have e32 : s1 32 = s 32 := ff 32 (by decide) (by decide)
      obtain ⟨s2, hs2, g6, g35, gf, g32⟩ : ∃ s2, up (up s1 35 0 sz x) 32 0 6 ((sz : Int) + 1) = s2 ∧ s2 32 0 6 = ((sz + 1 : Nat) : Int) ∧ (∀ i, s2 35 0 i = if i = sz then x else s1 35 0 i) ∧ (∀ c, c ≠ 35 → c ≠ 32 → s2 c = s1 c) ∧ (∀ i, i ≠ 6 → s2 32 0 i = s1 32 0 i) := by
        refine ⟨_, rfl, ?_, fun i => ?_, fun c q1 q2 => by rw [up_c q2, up_c q1], fun i hi => by rw [up_i hi, up_c (by decide)]⟩
        · rw [up_hit]; omega
        · rw [up_c (by decide), up_f]; rfl
      refine ⟨vi ((sz : Int) + 1), s1, s2, ?_, ?_, ft, n, sm, tn, t, ?_⟩
      · rw [qX8_feed, if_neg (by omega), if_neg (by omega), qX4_add, t2, if_pos (by omega), if_pos (inbN hz), bI_s, if_neg i10, Int.toNat_natCast, w32_id (by omega) (by omega), hs1, qX4_size, bI_s, f2]
        rw [show ((sz + 1 : Nat) : Int) = (sz : Int) + 1 by omega]
      · rw [qX9_feed, in_ok, bI_s, b01, if_pos hx, e32, t3, if_neg (by omega), if_pos (inbN hz), Int.toNat_natCast, w32_id (by omega) (by omega), hs2]
      · have fc : ∀ c, c ≠ 11 → c ≠ 12 → c ≠ 32 → c ≠ 35 → s2 c = s c := fun c q1 q2 q3 q4 => (gf c q4 q3).trans (ff c q1 q2)
        have f32 : ∀ i, i ≠ 6 → s2 32 0 i = s 32 0 i := fun i hi => (g32 i hi).trans (by rw [e32])
        refine ⟨⟨⟨?_, ?_⟩, ⟨?_, ?_⟩, h3⟩, ⟨x1, x2, x3, ?_, ?_, ?_, ?_, ?_, ?_⟩, ⟨?_, ?_⟩, ⟨fun i => if i = sz then x else b i, sz + 1, by omega, ?_, g6, ?_⟩, ?_, ?_, ?_⟩
        · rw [fc 1 (by decide) (by decide) (by decide) (by decide)]; exact a1
        · rw [fc 3 (by decide) (by decide) (by decide) (by decide)]; exact a2
        · rw [f32 9 (by decide)]; exact b1
        · rw [fc 37 (by decide) (by decide) (by decide) (by decide), fc 36 (by decide) (by decide) (by decide) (by decide)]; exact b2
        · rw [fc 4 (by decide) (by decide) (by decide) (by decide)]; exact x4
        · rw [fc 4 (by decide) (by decide) (by decide) (by decide)]; exact x5
        · exact fun t' ht k hk => stands_fr (x6 t' ht k hk) (fc 6 (by decide) (by decide) (by decide) (by decide)) (fc 8 (by decide) (by decide) (by decide) (by decide))
        · rw [f32 3 (by decide)]; exact x7
        · rw [f32 4 (by decide)]; exact x8
        · intro t' ht
          unfold txR1
          rw [fc 33 (by decide) (by decide) (by decide) (by decide), fc 34 (by decide) (by decide) (by decide) (by decide)]; exact x9 t' ht
        · rw [fc 13 (by decide) (by decide) (by decide) (by decide)]; exact e1
        · rw [f32 25 (by decide)]; exact e2
        · rw [gf 11 (by decide) (by decide)]; exact f2
        · intro i hi
          rw [gf 12 (by decide) (by decide), f12, g35, ff 35 (by decide) (by decide)]
          by_cases e : i = sz
          · rw [if_pos e, if_pos e]
            show x = (if i = sz then x else b i) ∧ x = (if i = sz then x else b i) ∧ 0 ≤ (if i = sz then x else b i) ∧ (if i = sz then x else b i) ≤ 255
            rw [if_pos e]
            exact ⟨rfl, rfl, hx.1, hx.2⟩
          · rw [if_neg e, if_neg e]
            show s 12 0 i = (if i = sz then x else b i) ∧ s 35 0 i = (if i = sz then x else b i) ∧ 0 ≤ (if i = sz then x else b i) ∧ (if i = sz then x else b i) ≤ 255
            rw [if_neg e]
            exact t4 i (by omega)
        · intro j hj
          unfold sh1
          rw [fc 30 (by decide) (by decide) (by decide) (by decide), fc 48 (by decide) (by decide) (by decide) (by decide), fc 49 (by decide) (by decide) (by decide) (by decide), fc 50 (by decide) (by decide) (by decide) (by decide), fc 51 (by decide) (by decide) (by decide) (by decide), fc 31 (by decide) (by decide) (by decide) (by decide)]; exact hs j hj
        · rw [f32 38 (by decide), fc 26 (by decide) (by decide) (by decide) (by decide)]; exact k1
        · rw [fc 26 (by decide) (by decide) (by decide) (by decide), f32 39 (by decide), fc 28 (by decide) (by decide) (by decide) (by decide), fc 47 (by decide) (by decide) (by decide) (by decide)]; exact k2
    · refine ⟨vi (-4), s, s, ?_, ?_, ft, n, sm, tn, t, h'⟩
      · rw [qX8_feed, if_neg (by omega), if_neg (by omega), qX4_add, t2, if_neg (by omega), bI_s, if_pos i00]
      · rw [qX9_feed, in_ok, bI_s, b01, if_pos hx, t3, if_pos (by omega)]
  · refine ⟨vi (-2), s, s, ?_, ?_, ft, n, sm, tn, t, h'⟩
    · rw [qX8_feed]
      by_cases c0 : x < 0
      · rw [if_pos c0]
      · rw [if_neg c0, if_pos (by omega)]
    · rw [qX9_feed, in_ok, bI_s, b01, if_neg hx]
theorem p_force (x : Int) : PAIR mX8_force mX9_force [vi x] := by
  intro s ⟨ft, n, sm, tn, t, h⟩
  have h' := h
  obtain ⟨⟨⟨a1, a2⟩, ⟨b1, b2⟩, h3⟩, ⟨x1, x2, x3, x4, x5, x6, x7, x8, x9⟩, ⟨e1, e2⟩, ⟨b, sz, t1, t2, t3, t4⟩, hs, k1, k2⟩ := h
  have hhas : ∀ d, RUN d mX5_has [vr 4 0, vi x] s = some (some (vi (if 0 ≤ x ∧ x < (tn : Int) then 1 else 0)), s) := by
    intro d
    rw [qX5_has, x4]
    by_cases q1 : x < 0
    · rw [if_pos q1, if_neg (by omega)]
    · rw [if_neg q1]
      by_cases q2 : x < (tn : Int)
      · rw [if_pos q2, if_pos (by omega)]
      · rw [if_neg q2, if_neg (by omega)]
  by_cases hx : 0 ≤ x ∧ x < (tn : Int)
  · obtain ⟨y, rfl⟩ : ∃ y : Nat, x = (y : Int) := ⟨x.toNat, by omega⟩
    obtain ⟨s1, hs1, f4, f5, ff⟩ : ∃ s1, up s 4 0 5 (y : Int) = s1 ∧ s1 4 0 4 = (tn : Int) ∧ s1 4 0 5 = (y : Int) ∧ (∀ c, c ≠ 4 → s1 c = s c) := ⟨_, rfl, by rw [up_i (by decide)]; exact x4, up_hit _ _ _ _ _, fun c hc => up_c hc⟩
    obtain ⟨s2, hs2, g4, gf, g32⟩ : ∃ s2, up s1 32 0 4 (y : Int) = s2 ∧ s2 32 0 4 = (y : Int) ∧ (∀ c, c ≠ 32 → s2 c = s1 c) ∧ (∀ i, i ≠ 4 → s2 32 0 i = s1 32 0 i) := ⟨_, rfl, up_hit _ _ _ _ _, fun c hc => up_c hc, fun i hi => up_i hi⟩
    refine ⟨vi (t : Int), s1, s2, ?_, ?_, ft, n, sm, tn, y, ?_⟩
    · rw [qX8_force, hhas, bI_s, b01, if_pos hx, qX5_choose, hhas, bI_s, b01, if_pos hx, x5, bI_s, hs1]
    · rw [qX9_force, ff 32 (by decide), x7, w32_id (by omega) (by omega), in_ok, bI_s, b01, if_pos (by omega), ff 32 (by decide), x8, hs2]
    · have fc : ∀ c, c ≠ 4 → c ≠ 32 → s2 c = s c := fun c q1 q2 => (gf c q2).trans (ff c q1)
      have f32 : ∀ i, i ≠ 4 → s2 32 0 i = s 32 0 i := fun i hi => (g32 i hi).trans (by rw [ff 32 (by decide)])
      have e4 : s2 4 = s1 4 := gf 4 (by decide)
      refine ⟨⟨⟨?_, ?_⟩, ⟨?_, ?_⟩, h3⟩, ⟨x1, x2, by omega, ?_, ?_, ?_, ?_, g4, ?_⟩, ⟨?_, ?_⟩, ⟨b, sz, t1, ?_, ?_, ?_⟩, ?_, ?_, ?_⟩
      · rw [fc 1 (by decide) (by decide)]; exact a1
      · rw [fc 3 (by decide) (by decide)]; exact a2
      · rw [f32 9 (by decide)]; exact b1
      · rw [fc 37 (by decide) (by decide), fc 36 (by decide) (by decide)]; exact b2
      · rw [e4]; exact f4
      · rw [e4]; exact f5
      · exact fun t' ht k hk => stands_fr (x6 t' ht k hk) (fc 6 (by decide) (by decide)) (fc 8 (by decide) (by decide))
      · rw [f32 3 (by decide)]; exact x7
      · intro t' ht
        unfold txR1
        rw [fc 33 (by decide) (by decide), fc 34 (by decide) (by decide)]; exact x9 t' ht
      · rw [fc 13 (by decide) (by decide)]; exact e1
      · rw [f32 25 (by decide)]; exact e2
      · rw [fc 11 (by decide) (by decide)]; exact t2
      · rw [f32 6 (by decide)]; exact t3
      · rw [fc 12 (by decide) (by decide), fc 35 (by decide) (by decide)]; exact t4
      · intro j hj
        unfold sh1
        rw [fc 30 (by decide) (by decide), fc 48 (by decide) (by decide), fc 49 (by decide) (by decide), fc 50 (by decide) (by decide), fc 51 (by decide) (by decide), fc 31 (by decide) (by decide)]; exact hs j hj
      · rw [f32 38 (by decide), fc 26 (by decide) (by decide)]; exact k1
      · rw [fc 26 (by decide) (by decide), f32 39 (by decide), fc 28 (by decide) (by decide), fc 47 (by decide) (by decide)]; exact k2
  · refine ⟨vi (-2), s, s, ?_, ?_, ft, n, sm, tn, t, h'⟩
    · rw [qX8_force, hhas, bI_s, b01, if_neg hx]
    · rw [qX9_force, x7, w32_id (by omega) (by omega), in_ok, bI_s, b01, if_neg (by omega)]
end P1
