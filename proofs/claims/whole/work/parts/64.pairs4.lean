/-! LAW 5: cars, taken, told, times, drawn, forward -/
section P4
variable {ft : Ft} {n : Nat} {sm : Nat → Sem × Sem × Sem} {tn t : Nat} {s s' : Sg} {d : Nat}
theorem p_cars (x y a m : Int) : PAIR mX8_cars mX9_cars [vi x, vi y, vi a, vi m] := by
  intro s ⟨ft, n, sm, tn, t, h⟩
  have h6 := h.1.2.2.1
  have bad : ∀ r : Int, RUN 60 mX8_cars [vr 0 0, vi x, vi y, vi a, vi m] s = some (some (vi r), s) → RUN 60 mX9_cars [vr 32 0, vi x, vi y, vi a, vi m] s = some (some (vi r), s) → ∃ r s1 s2, RUN 60 mX8_cars [vr 0 0, vi x, vi y, vi a, vi m] s = some (some r, s1) ∧ RUN 60 mX9_cars [vr 32 0, vi x, vi y, vi a, vi m] s1 = some (some r, s2) ∧ INV s2 := fun r h1 h2 => ⟨vi r, s, s, h1, h2, ft, n, sm, tn, t, h⟩
  by_cases hx : 0 ≤ x ∧ x < 4
  · obtain ⟨j, rfl⟩ : ∃ j : Nat, x = (j : Int) := ⟨x.toNat, by omega⟩
    have hj : j < 4 := by omega
    obtain ⟨q1, q2, q3, q4⟩ := h.2.2.2.2.1 j hj
    by_cases hy : 0 ≤ y ∧ y ≤ 2
    · by_cases hm : 0 ≤ m ∧ m ≤ 6
      · obtain ⟨N, rfl⟩ : ∃ N : Nat, m = (N : Int) := ⟨m.toNat, by omega⟩
        by_cases hmis : s 30 j 1 = -1
        · refine bad (-11) ?_ ?_
          · rw [qX8_cars, isShC, bI_s, b01, if_pos hx, if_neg (by omega), if_pos (by omega), if_neg (by omega), if_neg (by omega), if_pos (inbN hj), Int.toNat_natCast, missC, bI_s, b01, if_pos hmis]
          · rw [qX9_cars, isShR, bI_s, b01, if_pos hx, in_ok, bI_s, b01, if_pos hy, in_ok, bI_s, b01, if_pos hm, if_pos (inbN hj), Int.toNat_natCast, if_pos (q3 hmis), qX9_cars_57, if_pos (inbN hj), Int.toNat_natCast, if_pos (q3 hmis)]
        · obtain ⟨p1, p2, p3, p4⟩ := q4 hmis
          by_cases hs : s 30 j 1 = y
          · obtain ⟨s1, a1, a2, a3⟩ := carsC (d := 57) (j := j) (z1 := vi (j : Int)) (z2 := vi y) (z3 := vi a) (N := N) (by omega) N 0 a ft n 0 s s (by omega) (by omega) h.1.1 h6 q2 (fun _ _ _ => rfl)
            have hR1 : ftRf ft n s1 := ftRf_fr h.1.2.1 (by rw [a3 32 (by decide) (by decide)]) (a3 36 (by decide) (by decide)) (a3 37 (by decide) (by decide))
            have e48 := a3 48 (by decide) (by decide)
            have e49 := a3 49 (by decide) (by decide)
            have e50 := a3 50 (by decide) (by decide)
            have e51 := a3 51 (by decide) (by decide)
            obtain ⟨s2, b1, b2, b3⟩ := carsR (d := 58) (j := j) (z2 := vi y) (z7 := UU) (N := N) (it := s 31 j) (size := s 30 j 2) (a0 := a) hj (by omega) q2 N 0 ft n 0 UU s1 s1 (by omega) (Or.inl rfl) (by omega) hR1 h6 (by rw [e50]; exact p3) (by rw [e51]; exact p4) ⟨fun _ _ _ _ => rfl, fun _ _ => rfl⟩
            have ea : a + 3 * ((0 : Nat) : Int) = a := by omega
            rw [ea] at b1 b2
            have hok := carsI_ok (it := s 31 j) (size := s 30 j 2) N a ft n 0 h.1.2.2
            refine ⟨vi (carsI (s 31 j) (s 30 j 2) N a ft n 0).1, s1, s2, ?_, ?_, _, _, sm, tn, t, INV_grow h hok.2 a3 a2 hok.1 b3 b2⟩
            · rw [qX8_cars, isShC, bI_s, b01, if_pos hx, if_neg (by omega), if_pos (by omega), if_neg (by omega), if_neg (by omega), if_pos (inbN hj), Int.toNat_natCast, missC, bI_s, b01, if_neg hmis, qX6_sort, bI_s, if_pos hs]
              exact a1
            · have z48 : s1 48 0 j ≠ 0 := by rw [e48, p1]; decide
              have z49 : s1 49 0 j = y := by rw [e49, p2]; exact hs
              rw [qX9_cars, isShR, bI_s, b01, if_pos hx, in_ok, bI_s, b01, if_pos hy, in_ok, bI_s, b01, if_pos hm, if_pos (inbN hj), Int.toNat_natCast, if_neg z48, if_pos (inbN hj), if_pos z49, qX9_cars_57, if_pos (inbN hj), Int.toNat_natCast, if_neg z48]
              exact b1
          · refine bad (-13) ?_ ?_
            · rw [qX8_cars, isShC, bI_s, b01, if_pos hx, if_neg (by omega), if_pos (by omega), if_neg (by omega), if_neg (by omega), if_pos (inbN hj), Int.toNat_natCast, missC, bI_s, b01, if_neg hmis, qX6_sort, bI_s, if_neg hs]
            · rw [qX9_cars, isShR, bI_s, b01, if_pos hx, in_ok, bI_s, b01, if_pos hy, in_ok, bI_s, b01, if_pos hm, if_pos (inbN hj), Int.toNat_natCast, if_neg (by omega), if_pos (inbN hj), if_neg (by rw [p2]; exact hs)]
      · refine bad (-2) ?_ ?_
        · rw [qX8_cars, isShC, bI_s, b01, if_pos hx, if_neg (by omega), if_pos (by omega)]
          by_cases q : m < 0
          · rw [if_pos q]
          · rw [if_neg q, if_pos (by omega)]
        · rw [qX9_cars, isShR, bI_s, b01, if_pos hx, in_ok, bI_s, b01, if_pos hy, in_ok, bI_s, b01, if_neg hm]
    · refine bad (-2) ?_ ?_
      · rw [qX8_cars, isShC, bI_s, b01, if_pos hx]
        by_cases q : y < 0
        · rw [if_pos q]
        · rw [if_neg q, if_neg (by omega)]
      · rw [qX9_cars, isShR, bI_s, b01, if_pos hx, in_ok, bI_s, b01, if_neg hy]
  · refine bad (-2) ?_ ?_
    · rw [qX8_cars, isShC, bI_s, b01, if_neg hx]
    · rw [qX9_cars, isShR, bI_s, b01, if_neg hx]
/-- is a kind that one, or under it -/
def undB (k x : Int) : Bool := decide (k = x) || (decide (k = 3) && decide (x = 1)) || (decide (k = 4) && decide (x = 2)) || (decide (1 ≤ k) && decide (x = 0))
theorem u4 {x k i : Int} {z0 : PV} (hk : 0 ≤ k ∧ k ≤ 5) (hi : 0 ≤ i ∧ i < 6) : EV d mX3_isUnder (4, [z0, vi x, vi k, vi i], [], s) = if k = x then some (some (vi 1), s) else EV d mX3_isUnder (4, [z0, vi x, vi (sv 54 k.toNat), vi (i + 1)], [], s) := by
  rw [qX3_isUnder_4, if_pos hi.2, if_neg (by omega), if_pos (by omega), if_pos (show inb k 6 by constructor <;> omega), w32_id (by omega) (by omega)]
theorem uN {x i : Int} {z0 : PV} : EV d mX3_isUnder (4, [z0, vi x, vi (-1), vi i], [], s) = some (some (vi 0), s) := by
  rw [qX3_isUnder_4]
  by_cases h : i < 6
  · rw [if_pos h, if_pos (by decide)]
  · rw [if_neg h]
theorem u0 {x i : Int} {z0 : PV} (hi : 0 ≤ i ∧ i < 6) : EV d mX3_isUnder (4, [z0, vi x, vi 0, vi i], [], s) = some (some (vi (if (0 : Int) = x then 1 else 0)), s) := by
  rw [u4 (by omega) hi, show sv 54 (Int.toNat 0) = -1 from rfl, uN]
  by_cases h : (0 : Int) = x
  · rw [if_pos h, if_pos h]
  · rw [if_neg h, if_neg h]
theorem u1 {x i k : Int} {z0 : PV} (hk : k = 1 ∨ k = 2 ∨ k = 5) (hi : 0 ≤ i ∧ i < 5) : EV d mX3_isUnder (4, [z0, vi x, vi k, vi i], [], s) = some (some (vi (if k = x ∨ (0 : Int) = x then 1 else 0)), s) := by
  have e : sv 54 k.toNat = 0 := by rcases hk with rfl | rfl | rfl <;> rfl
  rw [u4 (by omega) (by omega), e, u0 (by omega)]
  by_cases h : k = x
  · rw [if_pos h, if_pos (Or.inl h)]
  · rw [if_neg h]
    by_cases h2 : (0 : Int) = x
    · rw [if_pos h2, if_pos (Or.inr h2)]
    · rw [if_neg h2, if_neg (by omega)]
theorem undB_iff {k x : Int} : undB k x = true ↔ (k = x ∨ (k = 3 ∧ x = 1) ∨ (k = 4 ∧ x = 2) ∨ (1 ≤ k ∧ x = 0)) := by
  unfold undB
  simp [or_assoc]
theorem underC {k x : Int} (hk : 0 ≤ k ∧ k ≤ 5) (hx : 0 ≤ x ∧ x ≤ 5) : RUN d mX3_isUnder [vi k, vi x] s = some (some (vi (if undB k x = true then 1 else 0)), s) := by
  have hu := undB_iff (k := k) (x := x)
  have fin : ∀ p : Prop, [Decidable p] → (p ↔ undB k x = true) → some (some (vi (if p then 1 else 0)), s) = some (some (vi (if undB k x = true then 1 else 0)), s) := by
    intro p _ hp
    by_cases q : p
    · rw [if_pos q, if_pos (hp.mp q)]
    · rw [if_neg q, if_neg (fun z => q (hp.mpr z))]
  rw [qX3_isUnder]
  by_cases k0 : k = 0
  · subst k0
    rw [u0 (by decide)]
    exact fin _ (by rw [hu]; omega)
  by_cases k1 : k = 1 ∨ k = 2 ∨ k = 5
  · rw [u1 k1 (by decide)]
    exact fin _ (by rw [hu]; omega)
  have e : (k = 3 ∧ sv 54 k.toNat = 1) ∨ (k = 4 ∧ sv 54 k.toNat = 2) := by
    have : k = 3 ∨ k = 4 := by omega
    rcases this with rfl | rfl
    · exact Or.inl ⟨rfl, rfl⟩
    · exact Or.inr ⟨rfl, rfl⟩
  rw [u4 hk (by decide), u1 (by omega) (by decide)]
  by_cases q : k = x
  · rw [if_pos q, if_pos (hu.mpr (Or.inl q))]
  · rw [if_neg q]
    exact fin _ (by rw [hu]; omega)
theorem v4 {x k y1 : Int} (hk : k ≠ -1) (hx : k ≠ x) : EV (d + 1) mX9_taken (33, [vr 32 0, vi y1, vi x, vi k], [], s) = EV (d + 1) mX9_taken (33, [vr 32 0, vi y1, vi x, vi (if k = 0 then -1 else if k = 3 then 1 else if k = 4 then 2 else 0)], [], s) := by
  rw [qX9_taken_33, if_neg hk, if_neg hx, qX9_over]
  by_cases h0 : k = 0
  · rw [if_pos h0, bI_s, if_pos h0]
  rw [if_neg h0, if_neg h0]
  by_cases h3 : k = 3
  · rw [if_pos h3, bI_s, if_pos h3]
  rw [if_neg h3, if_neg h3]
  by_cases h4 : k = 4
  · rw [if_pos h4, bI_s, if_pos h4]
  rw [if_neg h4, bI_s, if_neg h4]
theorem vE {x k y1 : Int} (hk : k = -1 ∨ k = x) : EV (d + 1) mX9_taken (33, [vr 32 0, vi y1, vi x, vi k], [], s) = EV (d + 1) mX9_taken (51, [vr 32 0, vi y1, vi x, vi k], [], s) := by
  rw [qX9_taken_33]
  by_cases h : k = -1
  · rw [if_pos h]
  · rw [if_neg h, if_pos (hk.resolve_left h)]
theorem v0 {x y1 : Int} (hx : 0 ≤ x) : EV (d + 1) mX9_taken (33, [vr 32 0, vi y1, vi x, vi 0], [], s) = EV (d + 1) mX9_taken (51, [vr 32 0, vi y1, vi x, vi (if x = 0 then x else -1)], [], s) := by
  by_cases h : x = 0
  · rw [if_pos h, vE (Or.inr h.symm), h]
  · rw [if_neg h, v4 (by decide) (fun q => h q.symm), if_pos rfl, vE (Or.inl rfl)]
theorem v1 {x y1 k : Int} (hk : k = 1 ∨ k = 2 ∨ k = 5) (hx : 0 ≤ x) : EV (d + 1) mX9_taken (33, [vr 32 0, vi y1, vi x, vi k], [], s) = EV (d + 1) mX9_taken (51, [vr 32 0, vi y1, vi x, vi (if k = x ∨ x = 0 then x else -1)], [], s) := by
  by_cases h : k = x
  · rw [if_pos (Or.inl h), vE (Or.inr h), h]
  · rw [v4 (by omega) h, if_neg (show ¬ k = 0 by omega), if_neg (show ¬ k = 3 by omega), if_neg (show ¬ k = 4 by omega), v0 hx]
    by_cases h2 : x = 0
    · rw [if_pos h2, if_pos (Or.inr h2)]
    · rw [if_neg h2, if_neg (by omega)]
theorem underR {k x : Int} {y1 : Int} (hk : 0 ≤ k ∧ k ≤ 5) (hx : 0 ≤ x ∧ x ≤ 5) : EV (d + 1) mX9_taken (33, [vr 32 0, vi y1, vi x, vi k], [], s) = EV (d + 1) mX9_taken (51, [vr 32 0, vi y1, vi x, vi (if undB k x = true then x else -1)], [], s) := by
  have hu := undB_iff (k := k) (x := x)
  have fin : ∀ p : Prop, [Decidable p] → (p ↔ undB k x = true) → EV (d + 1) mX9_taken (51, [vr 32 0, vi y1, vi x, vi (if p then x else -1)], [], s) = EV (d + 1) mX9_taken (51, [vr 32 0, vi y1, vi x, vi (if undB k x = true then x else -1)], [], s) := by
    intro p _ hp
    by_cases q : p
    · rw [if_pos q, if_pos (hp.mp q)]
    · rw [if_neg q, if_neg (fun z => q (hp.mpr z))]
  by_cases k0 : k = 0
  · subst k0
    rw [v0 hx.1]
    exact fin _ (by rw [hu]; omega)
  by_cases k1 : k = 1 ∨ k = 2 ∨ k = 5
  · rw [v1 k1 hx.1]
    exact fin _ (by rw [hu]; omega)
  by_cases q : k = x
  · rw [vE (Or.inr q), if_pos (hu.mpr (Or.inl q)), q]
  · rw [v4 (by omega) q, if_neg k0]
    by_cases k3 : k = 3
    · rw [if_pos k3, v1 (by omega) hx.1]
      exact fin _ (by rw [hu]; omega)
    · rw [if_neg k3, if_pos (show k = 4 by omega), v1 (by omega) hx.1]
      exact fin _ (by rw [hu]; omega)
theorem p_taken (x y : Int) : PAIR mX8_taken mX9_taken [vi x, vi y] := by
  refine pair_ro (fun ft n _ _ _ => vi (if 0 ≤ y ∧ y ≤ 5 then (if 0 ≤ x ∧ x < (n : Int) then (if undB (ft 5 x.toNat) y = true then ft 0 x.toNat else -13) else -11) else -2)) (fun ft n sm tn t s h => ⟨s, ?_, frI_refl s⟩) (fun ft n sm tn t s h => ⟨s, ?_, frI_refl s⟩)
  · have hC := inv_YC h
    rw [qX8_taken]
    by_cases hy : 0 ≤ y ∧ y ≤ 5
    · rw [if_neg (by omega), if_neg (by omega), YC_has hC, bI_s, b01, if_pos hy]
      by_cases hx : 0 ≤ x ∧ x < (n : Int)
      · obtain ⟨c, rfl⟩ : ∃ c : Nat, x = (c : Int) := ⟨x.toNat, by omega⟩
        have hcn : c < n := by omega
        have hf := h.1.2.2.2 c hcn
        rw [if_pos hx, if_pos hx, Int.toNat_natCast, show RUN 59 mX1_tell [vr 1 0, vi 5, vi (c : Int)] s = _ from YC_tell (f := 5) hC hcn (by omega), bI_s, underC hf.2.2.2.2.2 hy, bI_s, b01]
        by_cases hu : undB (ft 5 c) y = true
        · rw [if_pos hu, if_pos hu, show RUN 59 mX1_tell [vr 1 0, vi 0, vi (c : Int)] s = _ from YC_tell (f := 0) hC hcn (by omega), bI_s]
        · rw [if_neg hu, if_neg hu]
      · rw [if_neg hx, if_neg hx]
    · rw [if_neg hy]
      by_cases q : y < 0
      · rw [if_pos q]
      · rw [if_neg q, if_pos (by omega)]
  · have hR := inv_YR h
    have h6 := h.1.2.2.1
    rw [qX9_taken, in_ok, bI_s, b01]
    by_cases hy : 0 ≤ y ∧ y ≤ 5
    · rw [if_pos hy, if_pos hy, carR hR, bI_s, b01]
      by_cases hx : 0 ≤ x ∧ x < (n : Int)
      · obtain ⟨c, rfl⟩ : ∃ c : Nat, x = (c : Int) := ⟨x.toNat, by omega⟩
        have hcn : c < n := by omega
        have hc6 : c < 6 := by omega
        have hf := h.1.2.2.2 c hcn
        rw [if_pos hx, if_pos hx, if_pos (inbN hc6), Int.toNat_natCast, YR_kd hR hcn, underR hf.2.2.2.2.2 hy, qX9_taken_51]
        by_cases hu : undB (ft 5 c) y = true
        · rw [if_pos hu, if_pos rfl, if_pos hu, r0 hc6, if_pos (inbN (by omega)), Int.toNat_natCast, YR_row hR hcn (by omega)]
        · rw [if_neg hu, if_neg (by omega), if_neg hu]
      · rw [if_neg hx, if_neg hx]
    · rw [if_neg hy, if_neg hy]
theorem p_told (x y : Int) : PAIR mX8_told mX9_told [vi x, vi y] := by
  refine pair_ro (fun ft n sm _ t => vi (if (0 ≤ x ∧ x < (n : Int)) ∧ 0 ≤ y ∧ y ≤ 10 then (if y = 6 then (if fitB (ft 5 x.toNat) (ft 1 x.toNat) (ft 2 x.toNat) = true then 1 else 0) else if y = 7 then (if longB (ft 5 x.toNat) = true then 1 else 0) else if y = 8 then (if drawB ft (akS (sm t) ft) false x.toNat (ft 2 x.toNat) (ft 3 x.toNat) = true then 1 else 0) else if y = 9 then takeI ft (akS (sm t) ft) x.toNat (ft 2 x.toNat) (ft 3 x.toNat) 0 else if y = 10 then mindI ft (akS (sm t) ft) x.toNat (ft 2 x.toNat) else ft y.toNat x.toNat) else -2)) (fun ft n sm tn t s h => ?_) (fun ft n sm tn t s h => ?_)
  · have hC := inv_YC h
    rw [qX8_told, YC_has hC, bI_s, b01]
    by_cases hx : 0 ≤ x ∧ x < (n : Int)
    · by_cases hy : 0 ≤ y ∧ y ≤ 10
      · obtain ⟨c, rfl⟩ : ∃ c : Nat, x = (c : Int) := ⟨x.toNat, by omega⟩
        have hcn : c < n := by omega
        have hf := h.1.2.2.2 c hcn
        rw [if_pos hx, if_pos (show (0 ≤ (c : Int) ∧ (c : Int) < (n : Int)) ∧ 0 ≤ y ∧ y ≤ 10 from ⟨hx, hy⟩), if_neg (show ¬ y < 0 by omega), if_neg (show ¬ 10 < y by omega), Int.toNat_natCast, show RUN 59 mX1_tell [vr 1 0, vi 2, vi (c : Int)] s = _ from YC_tell (f := 2) hC hcn (by omega), bI_s, show RUN 59 mX1_tell [vr 1 0, vi 3, vi (c : Int)] s = _ from YC_tell (f := 3) hC hcn (by omega), bI_s]
        by_cases y6 : y = 6
        · rw [if_pos y6, if_pos y6, fitsC hC hcn (by omega), bI_s, b01]
          by_cases q : fitB (ft 5 c) (ft 1 c) (ft 2 c) = true
          · rw [if_pos q, if_pos q]; exact ⟨s, rfl, frI_refl s⟩
          · rw [if_neg q, if_neg q]; exact ⟨s, rfl, frI_refl s⟩
        rw [if_neg y6, if_neg y6]
        by_cases y7 : y = 7
        · rw [if_pos y7, if_pos y7, show RUN 59 mX1_tell [vr 1 0, vi 5, vi (c : Int)] s = _ from YC_tell (f := 5) hC hcn (by omega), bI_s, isLong_ok, bI_s, b01]
          by_cases q : longB (ft 5 c) = true
          · rw [if_pos ((long_iff _).mp q), if_pos q]; exact ⟨s, rfl, frI_refl s⟩
          · rw [if_neg (fun z => q ((long_iff _).mpr z)), if_neg q]; exact ⟨s, rfl, frI_refl s⟩
        rw [if_neg y7, if_neg y7]
        by_cases y8 : y = 8
        · obtain ⟨s1, a1, a2⟩ := drawsC (d := 57) (l := ft 2 c) (m := ft 3 c) hC hcn
          rw [if_pos y8, if_pos y8, a1, bI_s, b01]
          by_cases q : drawB ft (akS (sm t) ft) false c (ft 2 c) (ft 3 c) = true
          · rw [if_pos q, if_pos q]; exact ⟨s1, rfl, frI_A a2⟩
          · rw [if_neg q, if_neg q]; exact ⟨s1, rfl, frI_A a2⟩
        rw [if_neg y8, if_neg y8]
        by_cases y9 : y = 9
        · obtain ⟨s1, a1, a2⟩ := takesC (d := 57) (l := ft 2 c) (m := ft 3 c) (a := 0) hC hcn
          rw [if_pos y9, if_pos y9, a1, bI_s]
          exact ⟨s1, rfl, frI_A a2⟩
        rw [if_neg y9, if_neg y9]
        by_cases y10 : y = 10
        · obtain ⟨s1, a1, a2⟩ := mindsC (d := 57) (l := ft 2 c) hC hcn
          rw [if_pos y10, if_pos y10, a1, bI_s]
          exact ⟨s1, rfl, frI_A a2⟩
        obtain ⟨f, rfl⟩ : ∃ f : Nat, y = (f : Int) := ⟨y.toNat, by omega⟩
        rw [if_neg y10, if_neg y10, YC_tell hC hcn (by omega), bI_s, Int.toNat_natCast]
        exact ⟨s, rfl, frI_refl s⟩
      · rw [if_pos hx, if_neg (show ¬ ((0 ≤ x ∧ x < (n : Int)) ∧ 0 ≤ y ∧ y ≤ 10) from fun z => hy z.2)]
        by_cases q : y < 0
        · rw [if_pos q]; exact ⟨s, rfl, frI_refl s⟩
        · rw [if_neg q, if_pos (by omega)]; exact ⟨s, rfl, frI_refl s⟩
    · rw [if_neg hx, if_neg (show ¬ ((0 ≤ x ∧ x < (n : Int)) ∧ 0 ≤ y ∧ y ≤ 10) from fun z => hx z.1)]
      exact ⟨s, rfl, frI_refl s⟩
  · have hR := inv_YR h
    have h6 := h.1.2.2.1
    rw [qX9_told, in_ok, bI_s, b01]
    by_cases hy : 0 ≤ y ∧ y ≤ 10
    · rw [if_pos hy, carR hR, bI_s, b01]
      by_cases hx : 0 ≤ x ∧ x < (n : Int)
      · obtain ⟨c, rfl⟩ : ∃ c : Nat, x = (c : Int) := ⟨x.toNat, by omega⟩
        have hcn : c < n := by omega
        have hc6 : c < 6 := by omega
        have hf := h.1.2.2.2 c hcn
        rw [if_pos hx, if_pos (show (0 ≤ (c : Int) ∧ (c : Int) < (n : Int)) ∧ 0 ≤ y ∧ y ≤ 10 from ⟨hx, hy⟩), Int.toNat_natCast]
        by_cases y5 : y < 6
        · rw [if_pos y5, if_neg (show ¬ y = 6 by omega), if_neg (show ¬ y = 7 by omega), if_neg (show ¬ y = 8 by omega), if_neg (show ¬ y = 9 by omega), if_neg (show ¬ y = 10 by omega)]
          obtain ⟨f, rfl⟩ : ∃ f : Nat, y = (f : Int) := ⟨y.toNat, by omega⟩
          by_cases y4 : (f : Int) < 5
          · have hix : w32 (w32 (5 * (c : Int)) + (f : Int)) = ((5 * c + f : Nat) : Int) := by rw [w32_id (x := 5 * (c : Int)) (by omega) (by omega), w32_id (by omega) (by omega)]; omega
            rw [if_pos y4, hix, if_pos (inbN (by omega)), Int.toNat_natCast, YR_row hR hcn (by omega), Int.toNat_natCast]
            exact ⟨s, rfl, frI_refl s⟩
          · have e5 : f = 5 := by omega
            subst e5
            rw [if_neg y4, if_pos (inbN hc6), YR_kd hR hcn]
            exact ⟨s, rfl, frI_refl s⟩
        rw [if_neg y5, r2 hc6, r3 hc6, if_pos (inbN (by omega)), if_pos (inbN (by omega)), Int.toNat_natCast, Int.toNat_natCast, YR_row hR hcn (by omega), YR_row hR hcn (by omega)]
        by_cases y9 : y < 9
        · rw [if_pos y9]
          by_cases y6 : y = 6
          · rw [if_pos y6, if_pos y6, fitsR hR hcn (by omega), bI_s, b01]
            by_cases q : fitB (ft 5 c) (ft 1 c) (ft 2 c) = true
            · rw [if_pos q, if_pos q]; exact ⟨s, rfl, frI_refl s⟩
            · rw [if_neg q, if_neg q]; exact ⟨s, rfl, frI_refl s⟩
          rw [if_neg y6, if_neg y6]
          by_cases y7 : y = 7
          · rw [if_pos y7, if_pos y7, longR hR hcn, bI_s, b01]
            by_cases q : longB (ft 5 c) = true
            · rw [if_pos q, if_pos q]; exact ⟨s, rfl, frI_refl s⟩
            · rw [if_neg q, if_neg q]; exact ⟨s, rfl, frI_refl s⟩
          obtain ⟨s1, a1, a2⟩ := drawsR (d := 15) (l := ft 2 c) (m := ft 3 c) hR hcn
          rw [if_neg y7, if_neg y7, if_pos (show y = 8 by omega), a1, bI_s, b01]
          by_cases q : drawB ft (akS (sm t) ft) false c (ft 2 c) (ft 3 c) = true
          · rw [if_pos q, if_pos q]; exact ⟨s1, rfl, frI_K a2⟩
          · rw [if_neg q, if_neg q]; exact ⟨s1, rfl, frI_K a2⟩
        rw [if_neg y9, if_neg (show ¬ y = 6 by omega), if_neg (show ¬ y = 7 by omega), if_neg (show ¬ y = 8 by omega)]
        by_cases e9 : y = 9
        · obtain ⟨s1, a1, a2⟩ := takesR (d := 15) (l := ft 2 c) (m := ft 3 c) (a := 0) hR hcn
          rw [if_pos e9, if_pos e9, a1, bI_s]
          exact ⟨s1, rfl, frI_K a2⟩
        · obtain ⟨s1, a1, a2⟩ := asksR (d := 16) (k := 2) (l := ft 2 c) (m := ft 3 c) (a := 0) hR hcn (by omega)
          rw [if_neg e9, if_neg e9, if_pos (show y = 10 by omega), show RUN 59 mX9_asks [vr 32 0, vi 2, vi (c : Int), vi (ft 2 c), vi (ft 3 c), vi 0] s = _ from a1, bI_s]
          exact ⟨s1, rfl, frI_K a2⟩
      · rw [if_neg hx, if_neg (show ¬ ((0 ≤ x ∧ x < (n : Int)) ∧ 0 ≤ y ∧ y ≤ 10) from fun z => hx z.1)]
        exact ⟨s, rfl, frI_refl s⟩
    · rw [if_neg hy, if_neg (show ¬ ((0 ≤ x ∧ x < (n : Int)) ∧ 0 ≤ y ∧ y ≤ 10) from fun z => hy z.2)]
      exact ⟨s, rfl, frI_refl s⟩
end P4
