/-! LAW 8: image, back -/
section P7
variable {ft : Ft} {n : Nat} {sm : Nat → Sem × Sem × Sem} {tn t : Nat} {s s' : Sg} {d : Nat}
theorem imgI {z2 : PV} {v : Sem × Sem × Sem} {eg : Bool} {f : Nat} (hf5 : f < 5) : ∀ (j x : Nat) (s : Sg), x + j = n → YC ft n v eg s → s 26 0 1 = (n : Int) → (∀ c, c < x → s 28 f c = ft f c) → ∃ s', EV (d + 1) mX2_take (26, [vr 26 0, vr 1 0, z2, vi (f : Int), vi (x : Int)], [], s) = EV (d + 1) mX2_take (18, [vr 26 0, vr 1 0, z2, vi ((f + 1 : Nat) : Int), vi (n : Int)], [], s') ∧ (∀ c, c < n → s' 28 f c = ft f c) ∧ (∀ c, c ≠ 28 → s' c = s c) ∧ (∀ f', f' ≠ f → s' 28 f' = s 28 f') := by
  intro j
  induction j with
  | zero =>
    intro x s hx hC h1 hr
    have hx : x = n := by omega
    subst hx
    rw [qX2_take_26, h1, if_neg (by omega), w32_id (by omega) (by omega), show (f : Int) + 1 = ((f + 1 : Nat) : Int) by omega]
    exact ⟨s, rfl, hr, fun _ _ => rfl, fun _ _ => rfl⟩
  | succ j ih =>
    intro x s hx hC h1 hr
    have h6 := hC.2.1.1
    rw [qX2_take_26, h1, if_pos (by omega), if_pos (inbN hf5), YC_tell hC (by omega) (by omega), bI_s, if_pos (inbN (by omega)), Int.toNat_natCast, Int.toNat_natCast, w32_id (by omega) (by omega), show (x : Int) + 1 = ((x + 1 : Nat) : Int) by omega]
    obtain ⟨s', a1, a2, a3, a4⟩ := ih (x + 1) (up s 28 f x (ft f x)) (by omega) (YC_fr hC ⟨fun c hc => up_c (by omega), by rw [up_c (by decide)]⟩) (by rw [up_c (by decide)]; exact h1)
      (fun c hc => by
        by_cases e : c = x
        · rw [e, up_hit]
        · rw [up_i e]; exact hr c (by omega))
    refine ⟨s', a1, a2, fun c hc => (a3 c hc).trans (up_c hc), fun f' hf => (a4 f' hf).trans ?_⟩
    funext i
    rw [up_ap, if_neg (fun q => hf q.2.1)]
theorem imgO {z2 : PV} {v : Sem × Sem × Sem} {eg : Bool} : ∀ (j f : Nat) (z4 : PV) (s : Sg), f + j = 5 → YC ft n v eg s → s 26 0 1 = (n : Int) → (∀ f', f' < f → ∀ c, c < n → s 28 f' c = ft f' c) → ∃ s', EV (d + 1) mX2_take (18, [vr 26 0, vr 1 0, z2, vi (f : Int), z4], [], s) = some (none, s') ∧ (∀ f', f' < 5 → ∀ c, c < n → s' 28 f' c = ft f' c) ∧ (∀ c, c ≠ 28 → s' c = s c) := by
  intro j
  induction j with
  | zero =>
    intro f z4 s hf hC h1 hr
    have hf : f = 5 := by omega
    subst hf
    rw [qX2_take_18, if_neg (by decide)]
    exact ⟨s, rfl, hr, fun _ _ => rfl⟩
  | succ j ih =>
    intro f z4 s hf hC h1 hr
    obtain ⟨s1, a1, a2, a3, a4⟩ := imgI (d := d) (z2 := z2) (f := f) (by omega) n 0 s (by omega) hC h1 (fun c hc => by omega)
    have e26 := a3 26 (by decide)
    obtain ⟨s', b1, b2, b3⟩ := ih (f + 1) (vi (n : Int)) s1 (by omega) (YC_fr hC ⟨fun c hc => a3 c (by omega), by rw [a3 13 (by decide)]⟩) (by rw [e26]; exact h1)
      (fun f' hf' c hc => by
        by_cases e : f' = f
        · rw [e]; exact a2 c hc
        · rw [a4 f' e]; exact hr f' (by omega) c hc)
    refine ⟨s', ?_, b2, fun c hc => (b3 c hc).trans (a3 c hc)⟩
    rw [qX2_take_18, if_pos (by omega)]
    exact a1.trans b1
theorem imgR : ∀ (j x : Nat) (s : Sg), x + j = 30 → ∃ s', EV d mX9_image (2, [vr 32 0, vi (x : Int)], [], s) = some (some (vi (s 32 0 9)), s') ∧ s' 32 0 38 = s 32 0 9 ∧ s' 32 0 39 = s 32 0 4 ∧ (∀ i, x ≤ i → i < 30 → s' 47 0 i = s 37 0 i) ∧ (∀ i, i < x → s' 47 0 i = s 47 0 i) ∧ (∀ c, c ≠ 32 → c ≠ 47 → s' c = s c) ∧ (∀ i, i ≠ 38 → i ≠ 39 → s' 32 0 i = s 32 0 i) := by
  intro j
  induction j with
  | zero =>
    intro x s hx
    have hx : x = 30 := by omega
    subst hx
    rw [qX9_image_2, if_neg (by decide)]
    refine ⟨_, rfl, by rw [up_i (by decide), up_hit], up_hit _ _ _ _ _, fun i h1 h2 => by omega, fun i _ => by rw [up_c (by decide), up_c (by decide)], fun c q1 q2 => by rw [up_c q1, up_c q1], fun i q1 q2 => by rw [up_i q2, up_i q1]⟩
  | succ j ih =>
    intro x s hx
    rw [qX9_image_2, if_pos (by omega), if_pos (inbN (by omega)), if_pos (inbN (by omega)), Int.toNat_natCast, w32_id (by omega) (by omega), show (x : Int) + 1 = ((x + 1 : Nat) : Int) by omega]
    obtain ⟨s', a1, a2, a3, a4, a5, a6, a7⟩ := ih (x + 1) (up s 47 0 x (s 37 0 x)) (by omega)
    have e32 : up s 47 0 x (s 37 0 x) 32 = s 32 := up_c (by decide)
    have e37 : up s 47 0 x (s 37 0 x) 37 = s 37 := up_c (by decide)
    rw [e32] at a1 a2 a3 a7
    rw [e37] at a4
    refine ⟨s', a1, a2, a3, fun i h1 h2 => ?_, fun i h1 => ?_, fun c q1 q2 => (a6 c q1 q2).trans (up_c q2), a7⟩
    · by_cases e : i = x
      · rw [e, a5 x (by omega), up_hit]
      · exact a4 i (by omega) h2
    · rw [a5 i (by omega), up_i (by omega)]
theorem p_image : PAIR mX8_image mX9_image [] := by
  intro s ⟨ft, n, sm, tn, t, h⟩
  have hC := inv_YC h
  have h6 := hC.2.1.1
  obtain ⟨⟨i1, i2, i3⟩, i4, ⟨i5, i6⟩, i7, i8, i9⟩ := h
  obtain ⟨s1, hs1, f1, f2, ff⟩ : ∃ s1, up (up s 26 0 1 (n : Int)) 26 0 2 (t : Int) = s1 ∧ s1 26 0 1 = (n : Int) ∧ s1 26 0 2 = (t : Int) ∧ (∀ c, c ≠ 26 → s1 c = s c) := ⟨_, rfl, by rw [up_i (by decide), up_hit], up_hit _ _ _ _ _, fun c hc => by rw [up_c hc, up_c hc]⟩
  have hC1 : YC ft n (sm t) false s1 := YC_fr hC ⟨fun c hc => ff c (by omega), by rw [ff 13 (by decide)]⟩
  obtain ⟨s2, a1, a2, a3⟩ := imgO (d := 57) (z2 := vr 4 0) 5 0 UU s1 (by omega) hC1 f1 (fun f' hf => by omega)
  have ec : ∀ c, c ≠ 26 → c ≠ 28 → s2 c = s c := fun c q1 q2 => (a3 c q2).trans (ff c q1)
  obtain ⟨s3, b1, b2, b3, b4, b5, b6, b7⟩ := imgR (d := 60) 30 0 s2 (by omega)
  have e32 := ec 32 (by decide) (by decide)
  have fc : ∀ c, c ≠ 26 → c ≠ 28 → c ≠ 32 → c ≠ 47 → s3 c = s c := fun c q1 q2 q3 q4 => (b6 c q3 q4).trans (ec c q1 q2)
  have f32 : ∀ i, i ≠ 38 → i ≠ 39 → s3 32 0 i = s 32 0 i := fun i q1 q2 => by rw [b7 i q1 q2, e32]
  have hst : RUN 59 mX2_take [vr 26 0, vr 1 0, vr 4 0] s = some (none, s2) := by
    rw [qX2_take, YC_size hC, bI_s, qX5_chosen, up_c (by decide), i4.2.2.2.2.1, bI_s, hs1]
    exact EV_deep (by omega) a1
  refine ⟨vi (n : Int), s2, s3, ?_, ?_, ft, n, sm, tn, t, ⟨⟨ftC_fr i1 (fc 1 (by decide) (by decide) (by decide) (by decide)) (fc 3 (by decide) (by decide) (by decide) (by decide)), ftRf_fr i2 (f32 9 (by decide) (by decide)) (fc 36 (by decide) (by decide) (by decide) (by decide)) (fc 37 (by decide) (by decide) (by decide) (by decide)), i3⟩, txB_fr i4 (fc 4 (by decide) (by decide) (by decide) (by decide)) (fc 6 (by decide) (by decide) (by decide) (by decide)) (fc 8 (by decide) (by decide) (by decide) (by decide)) (fc 33 (by decide) (by decide) (by decide) (by decide)) (fc 34 (by decide) (by decide) (by decide) (by decide)) (f32 3 (by decide) (by decide)) (f32 4 (by decide) (by decide)), ⟨by rw [fc 13 (by decide) (by decide) (by decide) (by decide)]; exact i5, by rw [f32 25 (by decide) (by decide)]; exact i6⟩, tpB_fr i7 (by rw [fc 11 (by decide) (by decide) (by decide) (by decide)]) (fc 12 (by decide) (by decide) (by decide) (by decide)) (fc 35 (by decide) (by decide) (by decide) (by decide)) (f32 6 (by decide) (by decide)), shB_fr i8 (fc 30 (by decide) (by decide) (by decide) (by decide)) (fc 31 (by decide) (by decide) (by decide) (by decide)) (fc 48 (by decide) (by decide) (by decide) (by decide)) (fc 49 (by decide) (by decide) (by decide) (by decide)) (fc 50 (by decide) (by decide) (by decide) (by decide)) (fc 51 (by decide) (by decide) (by decide) (by decide)), ?_, Or.inr ⟨n, t, ?_, Nat.le_refl _, ?_, ?_, i4.2.2.1, fun c hc f hf => ?_⟩⟩⟩
  · have hC2 : YC ft n (sm t) false s2 := YC_fr hC ⟨fun c hc => ec c (by omega) (by omega), by rw [ec 13 (by decide) (by decide)]⟩
    rw [qX8_image, hst, bV_s, YC_size hC2, bI_s]
  · rw [qX9_image, show EV 60 mX9_image (2, [vr 32 0, vi 0], [], s2) = _ from b1, e32, i2.1]
  · rw [b2, e32, i2.1, b6 26 (by decide) (by decide), a3 26 (by decide), f1]
  · rw [b6 26 (by decide) (by decide), a3 26 (by decide), f1]
  · rw [b6 26 (by decide) (by decide), a3 26 (by decide), f2]
  · rw [b3, e32, i4.2.2.2.2.2.2.2.1]
  · have h28 : s3 28 f c = ft f c := by rw [b6 28 (by decide) (by decide)]; exact a2 f hf c hc
    have h47 : s3 47 0 (5 * c + f) = ft f c := by rw [b4 _ (by omega) (by omega), ec 37 (by decide) (by decide)]; exact (i2.2 c hc).1 f hf
    rw [h28, h47]
    exact ⟨rfl, (ftOk_iff.mp i3).2 c hc f (by omega)⟩
end P7
