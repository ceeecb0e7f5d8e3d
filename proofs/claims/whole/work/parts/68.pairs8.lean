/-! LAW 9: back; sheets -/
section P8
variable {ft : Ft} {n : Nat} {sm : Nat → Sem × Sem × Sem} {tn t : Nat} {s s' : Sg} {d : Nat}
theorem bkI {z2 : PV} {f kn : Nat} (hf5 : f < 5) (h6 : kn ≤ 6) : ∀ (j x : Nat) (s : Sg), x + j = kn → s 1 0 1 = (kn : Int) → s 26 0 1 = (kn : Int) → (∀ c, c < x → s 3 f c = s 28 f c) → ∃ s', EV (d + 2) mX2_layBack (27, [vr 26 0, vr 1 0, z2, vi (f : Int), vi (x : Int)], [], s) = EV (d + 2) mX2_layBack (19, [vr 26 0, vr 1 0, z2, vi ((f + 1 : Nat) : Int), vi (kn : Int)], [], s') ∧ (∀ c, c < kn → s' 3 f c = s 28 f c) ∧ (∀ c, c ≠ 3 → s' c = s c) ∧ (∀ f', f' ≠ f → s' 3 f' = s 3 f') := by
  intro j
  induction j with
  | zero =>
    intro x s hx h1 h26 hr
    have hx : x = kn := by omega
    subst hx
    rw [qX2_layBack_27, h26, if_neg (by omega), w32_id (by omega) (by omega), show (f : Int) + 1 = ((f + 1 : Nat) : Int) by omega]
    exact ⟨s, rfl, hr, fun _ _ => rfl, fun _ _ => rfl⟩
  | succ j ih =>
    intro x s hx h1 h26 hr
    rw [qX2_layBack_27, h26, if_pos (by omega), if_pos (inbN hf5), if_pos (inbN (by omega)), Int.toNat_natCast, Int.toNat_natCast, put_ok (by omega) (by rw [h1]; omega) (by rw [h1]; omega), bI_s, Int.toNat_natCast, Int.toNat_natCast, w32_id (by omega) (by omega), show (x : Int) + 1 = ((x + 1 : Nat) : Int) by omega]
    have e28 : up s 3 f x (s 28 f x) 28 = s 28 := up_c (by decide)
    obtain ⟨s', a1, a2, a3, a4⟩ := ih (x + 1) (up s 3 f x (s 28 f x)) (by omega) (by rw [up_c (by decide)]; exact h1) (by rw [up_c (by decide)]; exact h26)
      (fun c hc => by
        rw [e28]
        by_cases e : c = x
        · rw [e, up_hit]
        · rw [up_i e]; exact hr c (by omega))
    rw [e28] at a2
    refine ⟨s', a1, a2, fun c hc => (a3 c hc).trans (up_c hc), fun f' hf => (a4 f' hf).trans ?_⟩
    funext i
    rw [up_ap, if_neg (fun q => hf q.2.1)]
theorem bkO {z2 : PV} {kn : Nat} (h6 : kn ≤ 6) : ∀ (j f : Nat) (z4 : PV) (s : Sg), f + j = 5 → s 1 0 1 = (kn : Int) → s 26 0 1 = (kn : Int) → (∀ f', f' < f → ∀ c, c < kn → s 3 f' c = s 28 f' c) → ∃ s', EV (d + 2) mX2_layBack (19, [vr 26 0, vr 1 0, z2, vi (f : Int), z4], [], s) = some (none, s') ∧ (∀ f', f' < 5 → ∀ c, c < kn → s' 3 f' c = s 28 f' c) ∧ (∀ c, c ≠ 3 → s' c = s c) ∧ s' 3 5 = s 3 5 := by
  intro j
  induction j with
  | zero =>
    intro f z4 s hf h1 h26 hr
    have hf : f = 5 := by omega
    subst hf
    rw [qX2_layBack_19, if_neg (by decide)]
    exact ⟨s, rfl, hr, fun _ _ => rfl, rfl⟩
  | succ j ih =>
    intro f z4 s hf h1 h26 hr
    obtain ⟨s1, a1, a2, a3, a4⟩ := bkI (d := d) (z2 := z2) (f := f) (kn := kn) (by omega) h6 kn 0 s (by omega) h1 h26 (fun c hc => by omega)
    have e28 := a3 28 (by decide)
    obtain ⟨s', b1, b2, b3, b4⟩ := ih (f + 1) (vi (kn : Int)) s1 (by omega) (by rw [a3 1 (by decide)]; exact h1) (by rw [a3 26 (by decide)]; exact h26)
      (fun f' hf' c hc => by
        rw [e28]
        by_cases e : f' = f
        · rw [e]; exact a2 c hc
        · rw [a4 f' e]; exact hr f' (by omega) c hc)
    rw [e28] at b2
    refine ⟨s', ?_, b2, fun c hc => (b3 c hc).trans (a3 c hc), b4.trans (a4 5 (by omega))⟩
    rw [qX2_layBack_19, if_pos (by omega)]
    exact a1.trans b1
theorem bkR : ∀ (j x : Nat) (s : Sg), x + j = 30 → ∃ s', EV d mX9_back (13, [vr 32 0, vi (x : Int)], [], s) = some (some (vi (s 32 0 38)), s') ∧ s' 32 0 9 = s 32 0 38 ∧ s' 32 0 4 = s 32 0 39 ∧ (∀ i, x ≤ i → i < 30 → s' 37 0 i = s 47 0 i) ∧ (∀ i, i < x → s' 37 0 i = s 37 0 i) ∧ (∀ c, c ≠ 32 → c ≠ 37 → s' c = s c) ∧ (∀ i, i ≠ 9 → i ≠ 4 → s' 32 0 i = s 32 0 i) := by
  intro j
  induction j with
  | zero =>
    intro x s hx
    have hx : x = 30 := by omega
    subst hx
    rw [qX9_back_13, if_neg (by decide)]
    refine ⟨_, rfl, by rw [up_i (by decide), up_hit], up_hit _ _ _ _ _, fun i h1 h2 => by omega, fun i _ => by rw [up_c (by decide), up_c (by decide)], fun c q1 q2 => by rw [up_c q1, up_c q1], fun i q1 q2 => by rw [up_i q2, up_i q1]⟩
  | succ j ih =>
    intro x s hx
    rw [qX9_back_13, if_pos (by omega), if_pos (inbN (by omega)), if_pos (inbN (by omega)), Int.toNat_natCast, w32_id (by omega) (by omega), show (x : Int) + 1 = ((x + 1 : Nat) : Int) by omega]
    obtain ⟨s', a1, a2, a3, a4, a5, a6, a7⟩ := ih (x + 1) (up s 37 0 x (s 47 0 x)) (by omega)
    have e32 : up s 37 0 x (s 47 0 x) 32 = s 32 := up_c (by decide)
    have e47 : up s 37 0 x (s 47 0 x) 47 = s 47 := up_c (by decide)
    rw [e32] at a1 a2 a3 a7
    rw [e47] at a4
    refine ⟨s', a1, a2, a3, fun i h1 h2 => ?_, fun i h1 => ?_, fun c q1 q2 => (a6 c q1 q2).trans (up_c q2), a7⟩
    · by_cases e : i = x
      · rw [e, a5 x (by omega), up_hit]
      · exact a4 i (by omega) h2
    · rw [a5 i (by omega), up_i (by omega)]
theorem p_back : PAIR mX8_back mX9_back [] := by
  intro s ⟨ft, n, sm, tn, t, h⟩
  have h6 := h.1.2.2.1
  have h' := h
  obtain ⟨⟨i1, i2, i3⟩, i4, ⟨i5, i6⟩, i7, i8, k1, k2⟩ := h
  obtain ⟨x1, x2, x3, x4, x5, x6, x7, x8, x9⟩ := i4
  rcases k2 with k2 | ⟨kn, kr, y1, y2, y3, y4, y5, y6⟩
  · refine ⟨vi (-3), s, s, ?_, ?_, ft, n, sm, tn, t, h'⟩
    · rw [qX8_back, qX2_isTaken, if_pos k2, bI_s, if_pos i00]
    · rw [qX9_back, k1, if_pos k2]
  · -- away go those that came since
    obtain ⟨s1, a1, a2, a3⟩ : ∃ s1, RUN 58 mX1_sendAwayFrom [vr 1 0, vi (kn : Int)] s = some (none, s1) ∧ s1 1 0 1 = (kn : Int) ∧ (∀ c, c ≠ 1 → s1 c = s c) := by
      rw [qX1_sendAwayFrom, has_ok, i1.1, bI_s, b01]
      by_cases q : kn < n
      · rw [if_pos (by omega)]
        exact ⟨_, rfl, up_hit _ _ _ _ _, fun c hc => up_c hc⟩
      · rw [if_neg (by omega)]
        exact ⟨s, rfl, by rw [i1.1]; omega, fun _ _ => rfl⟩
    have e4 : s1 4 = s 4 := a3 4 (by decide)
    have e26 : s1 26 = s 26 := a3 26 (by decide)
    obtain ⟨r0', s2, b1, b2, b3, b4⟩ : ∃ r s2, RUN 58 mX5_choose [vr 4 0, vi (kr : Int)] s1 = some (some (vi r), s2) ∧ s2 4 0 5 = (kr : Int) ∧ s2 4 0 4 = (tn : Int) ∧ (∀ c, c ≠ 4 → s2 c = s1 c) := by
      rw [qX5_choose, qX5_has, e4, x4, if_neg (by omega), if_pos (by omega), bI_s, if_neg i10]
      exact ⟨_, _, rfl, up_hit _ _ _ _ _, by rw [up_i (by decide), e4]; exact x4, fun c hc => up_c hc⟩
    have ec : ∀ c, c ≠ 1 → c ≠ 4 → s2 c = s c := fun c q1 q2 => (b4 c q2).trans (a3 c q1)
    obtain ⟨s3, c1, c2, c3, c4⟩ := bkO (d := 57) (z2 := vr 4 0) (kn := kn) (by omega) 5 0 UU s2 (by omega) (by rw [b4 1 (by decide)]; exact a2) (by rw [ec 26 (by decide) (by decide)]; exact y1) (fun f' hf => by omega)
    have e28 : s2 28 = s 28 := ec 28 (by decide) (by decide)
    rw [e28] at c2
    have fc : ∀ c, c ≠ 1 → c ≠ 3 → c ≠ 4 → s3 c = s c := fun c q1 q2 q3 => (c3 c q2).trans (ec c q1 q3)
    obtain ⟨s4, d1, d2, d3, d4, d5, d6, d7⟩ := bkR (d := 60) 30 0 s3 (by omega)
    have e32 : s3 32 = s 32 := fc 32 (by decide) (by decide) (by decide)
    have gc : ∀ c, c ≠ 1 → c ≠ 3 → c ≠ 4 → c ≠ 32 → c ≠ 37 → s4 c = s c := fun c q1 q2 q3 q4 q5 => (d6 c q4 q5).trans (fc c q1 q2 q3)
    have g32 : ∀ i, i ≠ 9 → i ≠ 4 → s4 32 0 i = s 32 0 i := fun i q1 q2 => by rw [d7 i q1 q2, e32]
    have hft : ftC (fun f c => if f < 5 then s 28 f c else ft f c) kn s4 := by
      refine ⟨by rw [d6 1 (by decide) (by decide), c3 1 (by decide), b4 1 (by decide)]; exact a2, fun c hc f hf => ?_⟩
      rw [d6 3 (by decide) (by decide)]
      show s3 3 f c = if f < 5 then s 28 f c else ft f c
      by_cases q : f < 5
      · rw [if_pos q]; exact c2 f q c hc
      · have q5 : f = 5 := by omega
        subst q5
        rw [if_neg q, c4, ec 3 (by decide) (by decide)]
        exact i1.2 c (by omega) 5 (by omega)
    have hrf : ftRf (fun f c => if f < 5 then s 28 f c else ft f c) kn s4 := by
      refine ⟨by rw [d2, e32, k1]; exact y1, fun c hc => ⟨fun f hf => ?_, ?_⟩⟩
      · rw [d4 _ (by omega) (by omega), fc 47 (by decide) (by decide) (by decide)]
        show s 47 0 (5 * c + f) = if f < 5 then s 28 f c else ft f c
        rw [if_pos hf]
        exact (y6 c hc f hf).1.symm
      · rw [gc 36 (by decide) (by decide) (by decide) (by decide) (by decide)]
        show s 36 0 c = if 5 < 5 then s 28 5 c else ft 5 c
        rw [if_neg (by decide)]
        exact (i2.2 c (by omega)).2
    have hok : ftOk (fun f c => if f < 5 then s 28 f c else ft f c) kn := by
      rw [ftOk_iff]
      refine ⟨by omega, fun c hc f hf => ?_⟩
      show 0 ≤ (if f < 5 then s 28 f c else ft f c) ∧ (if f < 5 then s 28 f c else ft f c) ≤ sv 52 f
      by_cases q : f < 5
      · rw [if_pos q]; exact (y6 c hc f q).2
      · rw [if_neg q]; exact (ftOk_iff.mp i3).2 c (by omega) f hf
    refine ⟨vi (kn : Int), s3, s4, ?_, ?_, _, kn, sm, tn, kr, ⟨⟨hft, hrf, hok⟩, ⟨x1, x2, y5, ?_, ?_, ?_, ?_, ?_, ?_⟩, ⟨?_, ?_⟩, ?_, ?_, ?_, Or.inr ⟨kn, kr, ?_, Nat.le_refl _, ?_, ?_, y5, ?_⟩⟩⟩
    · rw [qX8_back, qX2_isTaken, if_neg (by omega), bI_s, if_neg i10, qX2_layBack, y1, a1, bV_s, e26, y3, b1, bI_s, show EV (58 + 1) mX2_layBack (19, [vr 26 0, vr 1 0, vr 4 0, vi 0, UU], [], s2) = _ from c1, bV_s, size_ok, bI_s, c3 1 (by decide), b4 1 (by decide), a2]
    · rw [qX9_back, e32, k1, if_neg (by omega), show EV 60 mX9_back (13, [vr 32 0, vi 0], [], s3) = _ from d1, e32, k1, y1]
    · rw [d6 4 (by decide) (by decide), c3 4 (by decide)]; exact b3
    · rw [d6 4 (by decide) (by decide), c3 4 (by decide)]; exact b2
    · exact fun t' ht k hk => stands_fr (x6 t' ht k hk) (gc 6 (by decide) (by decide) (by decide) (by decide) (by decide)) (gc 8 (by decide) (by decide) (by decide) (by decide) (by decide))
    · rw [g32 3 (by decide) (by decide)]; exact x7
    · rw [d3, e32]; exact y4
    · intro t' ht
      unfold txR1
      rw [gc 33 (by decide) (by decide) (by decide) (by decide) (by decide), gc 34 (by decide) (by decide) (by decide) (by decide) (by decide)]; exact x9 t' ht
    · rw [gc 13 (by decide) (by decide) (by decide) (by decide) (by decide)]; exact i5
    · rw [g32 25 (by decide) (by decide)]; exact i6
    · exact tpB_fr i7 (by rw [gc 11 (by decide) (by decide) (by decide) (by decide) (by decide)]) (gc 12 (by decide) (by decide) (by decide) (by decide) (by decide)) (gc 35 (by decide) (by decide) (by decide) (by decide) (by decide)) (g32 6 (by decide) (by decide))
    · exact shB_fr i8 (gc 30 (by decide) (by decide) (by decide) (by decide) (by decide)) (gc 31 (by decide) (by decide) (by decide) (by decide) (by decide)) (gc 48 (by decide) (by decide) (by decide) (by decide) (by decide)) (gc 49 (by decide) (by decide) (by decide) (by decide) (by decide)) (gc 50 (by decide) (by decide) (by decide) (by decide) (by decide)) (gc 51 (by decide) (by decide) (by decide) (by decide) (by decide))
    · rw [g32 38 (by decide) (by decide), gc 26 (by decide) (by decide) (by decide) (by decide) (by decide)]; exact k1
    · rw [gc 26 (by decide) (by decide) (by decide) (by decide) (by decide)]; exact y1
    · rw [gc 26 (by decide) (by decide) (by decide) (by decide) (by decide)]; exact y3
    · rw [g32 39 (by decide) (by decide)]; exact y4
    · rw [gc 28 (by decide) (by decide) (by decide) (by decide) (by decide), gc 47 (by decide) (by decide) (by decide) (by decide) (by decide)]; exact y6
end P8
