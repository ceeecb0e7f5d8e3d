/-! LAW 3: set, car, taken -/
section P2
variable {ft : Ft} {n : Nat} {sm : Nat → Sem × Sem × Sem} {tn t : Nat} {s s' : Sg}
theorem txB_fr (h : txB sm tn t s) (e4 : s' 4 = s 4) (e6 : s' 6 = s 6) (e8 : s' 8 = s 8) (e33 : s' 33 = s 33) (e34 : s' 34 = s 34) (i3 : s' 32 0 3 = s 32 0 3) (i4 : s' 32 0 4 = s 32 0 4) : txB sm tn t s' := by
  obtain ⟨x1, x2, x3, x4, x5, x6, x7, x8, x9⟩ := h
  refine ⟨x1, x2, x3, by rw [e4]; exact x4, by rw [e4]; exact x5, fun t' ht k hk => stands_fr (x6 t' ht k hk) e6 e8, i3.trans x7, i4.trans x8, fun t' ht => ?_⟩
  unfold txR1
  rw [e33, e34]
  exact x9 t' ht
theorem tpB_fr (h : tpB s) (i2 : s' 11 0 2 = s 11 0 2) (e12 : s' 12 = s 12) (e35 : s' 35 = s 35) (i6 : s' 32 0 6 = s 32 0 6) : tpB s' := by
  obtain ⟨b, sz, t1, t2, t3, t4⟩ := h
  exact ⟨b, sz, t1, i2.trans t2, i6.trans t3, by rw [e12, e35]; exact t4⟩
theorem shB_fr (h : shB s) (e30 : s' 30 = s 30) (e31 : s' 31 = s 31) (e48 : s' 48 = s 48) (e49 : s' 49 = s 49) (e50 : s' 50 = s 50) (e51 : s' 51 = s 51) : shB s' := by
  intro j hj
  unfold sh1
  rw [e30, e31, e48, e49, e50, e51]
  exact h j hj
theorem kpB_fr {n' : Nat} (h : kpB n tn s) (hn : n ≤ n') (e26 : s' 26 = s 26) (e28 : s' 28 = s 28) (e47 : s' 47 = s 47) (i38 : s' 32 0 38 = s 32 0 38) (i39 : s' 32 0 39 = s 32 0 39) : kpB n' tn s' := by
  obtain ⟨k1, k2⟩ := h
  refine ⟨by rw [i38, e26]; exact k1, ?_⟩
  rw [e26, e28, e47, i39]
  rcases k2 with k2 | ⟨kn, kr, y1, y2, y3⟩
  · exact Or.inl k2
  · exact Or.inr ⟨kn, kr, y1, by omega, y3⟩
theorem ftC_fr (h : ftC ft n s) (e1 : s' 1 = s 1) (e3 : s' 3 = s 3) : ftC ft n s' := ⟨by rw [e1]; exact h.1, by rw [e3]; exact h.2⟩
theorem ftRf_fr (h : ftRf ft n s) (i9 : s' 32 0 9 = s 32 0 9) (e36 : s' 36 = s 36) (e37 : s' 37 = s 37) : ftRf ft n s' := ⟨i9.trans h.1, by rw [e36, e37]; exact h.2⟩
theorem ftOk_iff : ftOk ft n ↔ (n ≤ 6 ∧ ∀ c, c < n → ∀ f, f < 6 → 0 ≤ ft f c ∧ ft f c ≤ sv 52 f) := by
  constructor
  · intro h
    refine ⟨h.1, fun c hc f hf => ?_⟩
    obtain ⟨g0, g1, g2, g3, g4, g5⟩ := h.2 c hc
    have hf : f = 0 ∨ f = 1 ∨ f = 2 ∨ f = 3 ∨ f = 4 ∨ f = 5 := by omega
    rcases hf with rfl | rfl | rfl | rfl | rfl | rfl
    · exact g0
    · exact g1
    · exact g2
    · exact g3
    · exact g4
    · exact g5
  · intro h
    exact ⟨h.1, fun c hc => ⟨h.2 c hc 0 (by omega), h.2 c hc 1 (by omega), h.2 c hc 2 (by omega), h.2 c hc 3 (by omega), h.2 c hc 4 (by omega), h.2 c hc 5 (by omega)⟩⟩
def fset (ft : Ft) (f c : Nat) (x : Int) : Ft := fun f' c' => if f' = f ∧ c' = c then x else ft f' c'
theorem fset_ok {f c : Nat} {x : Int} (h : ftOk ft n) (hx : 0 ≤ x ∧ x ≤ sv 52 f) : ftOk (fset ft f c x) n := by
  rw [ftOk_iff] at h ⊢
  refine ⟨h.1, fun c' hc f' hf => ?_⟩
  unfold fset
  by_cases q : f' = f ∧ c' = c
  · rw [if_pos q, q.1]; exact hx
  · rw [if_neg q]; exact h.2 c' hc f' hf
theorem fset_C {f c : Nat} {x : Int} (h : ftC ft n s) : ftC (fset ft f c x) n (up s 3 f c x) := by
  refine ⟨by rw [up_c (by decide)]; exact h.1, fun c' hc f' hf => ?_⟩
  rw [up_ap]
  unfold fset
  by_cases q : f' = f ∧ c' = c
  · rw [if_pos q, if_pos ⟨rfl, q.1, q.2⟩]
  · rw [if_neg q, if_neg (fun z => q ⟨z.2.1, z.2.2⟩)]; exact h.2 c' hc f' hf
theorem fset_R {f c : Nat} {x : Int} (h : ftRf ft n s) (hf5 : f < 5) : ftRf (fset ft f c x) n (up s 37 0 (5 * c + f) x) := by
  refine ⟨by rw [up_c (by decide)]; exact h.1, fun c' hc => ⟨fun f' hf => ?_, ?_⟩⟩
  · rw [up_ap]
    unfold fset
    by_cases q : f' = f ∧ c' = c
    · rw [if_pos q, if_pos ⟨rfl, rfl, by rw [q.1, q.2]⟩]
    · rw [if_neg q, if_neg (fun z => q (by omega))]; exact (h.2 c' hc).1 f' hf
  · rw [up_c (by decide)]
    unfold fset
    rw [if_neg (by omega)]
    exact (h.2 c' hc).2
theorem fset_R5 {c : Nat} {x : Int} (h : ftRf ft n s) : ftRf (fset ft 5 c x) n (up s 36 0 c x) := by
  refine ⟨by rw [up_c (by decide)]; exact h.1, fun c' hc => ⟨fun f' hf => ?_, ?_⟩⟩
  · rw [up_c (by decide)]
    unfold fset
    rw [if_neg (by omega)]
    exact (h.2 c' hc).1 f' hf
  · rw [up_ap]
    unfold fset
    by_cases q : c' = c
    · rw [if_pos ⟨rfl, rfl, q⟩, if_pos ⟨rfl, q⟩]
    · rw [if_neg (fun z => q z.2.2), if_neg (fun z => q z.2)]; exact (h.2 c' hc).2
theorem mostR {f : Nat} {d : Nat} (hf : f < 5) : RUN d mX9_mostOf [vi (f : Int)] s = some (some (vi (sv 52 f)), s) := by
  rw [qX9_mostOf]
  have hf : f = 0 ∨ f = 1 ∨ f = 2 ∨ f = 3 ∨ f = 4 := by omega
  rcases hf with rfl | rfl | rfl | rfl | rfl <;> rfl
theorem p_set (x y w : Int) : PAIR mX8_set mX9_set [vi x, vi y, vi w] := by
  intro s ⟨ft, n, sm, tn, t, h⟩
  have hC := inv_YC h
  have hR := inv_YR h
  have h6 := hC.2.1.1
  by_cases hx : 0 ≤ x ∧ x ≤ 4
  · obtain ⟨f, rfl⟩ : ∃ f : Nat, x = (f : Int) := ⟨x.toNat, by omega⟩
    have hf5 : f < 5 := by omega
    by_cases hy : 0 ≤ y ∧ y < (n : Int)
    · obtain ⟨c, rfl⟩ : ∃ c : Nat, y = (c : Int) := ⟨y.toNat, by omega⟩
      have hcn : c < n := by omega
      have hix : w32 (w32 (5 * (c : Int)) + (f : Int)) = ((5 * c + f : Nat) : Int) := by rw [w32_id (x := 5 * (c : Int)) (by omega) (by omega), w32_id (by omega) (by omega)]; omega
      have hrow := YR_row hR hcn hf5
      by_cases hw : 0 ≤ w ∧ w ≤ sv 52 f
      · obtain ⟨⟨i1, i2, i3⟩, i4, ⟨i5, i6⟩, i7, i8, i9⟩ := h
        refine ⟨vi (ft f c), up s 3 f c w, up (up s 3 f c w) 37 0 (5 * c + f) w, ?_, ?_, fset ft f c w, n, sm, tn, t, ⟨⟨?_, ?_, fset_ok i3 hw⟩, ?_, ⟨?_, ?_⟩, ?_, ?_, ?_⟩⟩
        · rw [qX8_set, if_neg (by omega), if_neg (by omega), YC_has hC, bI_s, b01, if_pos hy, if_neg (by omega), if_pos (inbN (by omega)), Int.toNat_natCast, if_neg (by omega), put_ok (by omega) (by rw [hC.1.1]; exact hy) (by rw [hC.1.1]; omega), bI_s, Int.toNat_natCast, Int.toNat_natCast, hC.1.2 c hcn f (by omega)]
        · have hR1 : YR ft n (sm t) false (up s 3 f c w) := YR_fr hR ⟨fun c hc => up_c (by omega), fun i _ => by rw [up_c (by decide)]⟩
          rw [qX9_set, in_ok, bI_s, b01, if_pos hx, carR hR1, bI_s, b01, if_pos hy, mostR hf5, bI_s, in_ok, bI_s, b01, if_pos hw, hix, if_pos (inbN (by omega)), if_pos (inbN (by omega)), Int.toNat_natCast, YR_row hR1 hcn hf5]
        · exact ftC_fr (fset_C i1) (up_c (by decide)) (up_c (by decide))
        · exact fset_R (ftRf_fr i2 (by rw [up_c (by decide)]) (up_c (by decide)) (up_c (by decide))) hf5
        · exact txB_fr i4 (by rw [up_c (by decide), up_c (by decide)]) (by rw [up_c (by decide), up_c (by decide)]) (by rw [up_c (by decide), up_c (by decide)]) (by rw [up_c (by decide), up_c (by decide)]) (by rw [up_c (by decide), up_c (by decide)]) (by rw [up_c (by decide), up_c (by decide)]) (by rw [up_c (by decide), up_c (by decide)])
        · rw [up_c (by decide), up_c (by decide)]; exact i5
        · rw [up_c (by decide), up_c (by decide)]; exact i6
        · exact tpB_fr i7 (by rw [up_c (by decide), up_c (by decide)]) (by rw [up_c (by decide), up_c (by decide)]) (by rw [up_c (by decide), up_c (by decide)]) (by rw [up_c (by decide), up_c (by decide)])
        · exact shB_fr i8 (by rw [up_c (by decide), up_c (by decide)]) (by rw [up_c (by decide), up_c (by decide)]) (by rw [up_c (by decide), up_c (by decide)]) (by rw [up_c (by decide), up_c (by decide)]) (by rw [up_c (by decide), up_c (by decide)]) (by rw [up_c (by decide), up_c (by decide)])
        · exact kpB_fr i9 (Nat.le_refl _) (by rw [up_c (by decide), up_c (by decide)]) (by rw [up_c (by decide), up_c (by decide)]) (by rw [up_c (by decide), up_c (by decide)]) (by rw [up_c (by decide), up_c (by decide)]) (by rw [up_c (by decide), up_c (by decide)])
      · refine ⟨vi (-2), s, s, ?_, ?_, ft, n, sm, tn, t, h⟩
        · rw [qX8_set, if_neg (by omega), if_neg (by omega), YC_has hC, bI_s, b01, if_pos hy]
          by_cases q : w < 0
          · rw [if_pos q]
          · rw [if_neg q, if_pos (inbN (by omega)), Int.toNat_natCast, if_pos (by omega)]
        · rw [qX9_set, in_ok, bI_s, b01, if_pos hx, carR hR, bI_s, b01, if_pos hy, mostR hf5, bI_s, in_ok, bI_s, b01, if_neg hw]
    · refine ⟨vi (-2), s, s, ?_, ?_, ft, n, sm, tn, t, h⟩
      · rw [qX8_set, if_neg (by omega), if_neg (by omega), YC_has hC, bI_s, b01, if_neg hy]
      · rw [qX9_set, in_ok, bI_s, b01, if_pos hx, carR hR, bI_s, b01, if_neg hy]
  · refine ⟨vi (-2), s, s, ?_, ?_, ft, n, sm, tn, t, h⟩
    · rw [qX8_set]
      by_cases q : x < 0
      · rw [if_pos q]
      · rw [if_neg q, if_pos (by omega)]
    · rw [qX9_set, in_ok, bI_s, b01, if_neg hx]
/-- a car more -/
def fnew (ft : Ft) (n : Nat) (kind number lane : Int) : Ft := fun f c => if c = n then (if f = 0 then number else if f = 2 then lane else if f = 5 then kind else 0) else ft f c
abbrev carOk (kind number lane : Int) : Prop := 0 ≤ kind ∧ kind ≤ 5 ∧ 0 ≤ number ∧ number ≤ 9 ∧ 0 ≤ lane ∧ lane ≤ 3
theorem fnew_ok {kind number lane : Int} (h : ftOk ft n) (hn : n < 6) (hk : carOk kind number lane) : ftOk (fnew ft n kind number lane) (n + 1) := by
  obtain ⟨k1, k2, k3, k4, k5, k6⟩ := hk
  refine ⟨by omega, fun c hc => ?_⟩
  unfold fnew
  by_cases q : c = n
  · simp only [if_pos q]
    simp
    omega
  · simp only [if_neg q]
    exact h.2 c (by omega)
/-- the class lets one in -/
theorem newC {kind number lane : Int} {d : Nat} (h : ftC ft n s) (h6 : n ≤ 6) : (carOk kind number lane ∧ n < 6 → ∃ s', RUN (d + 2) mX1_welcome [vr 1 0, vi kind, vi number, vi lane] s = some (some (vi (n : Int)), s') ∧ ftC (fnew ft n kind number lane) (n + 1) s' ∧ (∀ c, c ≠ 1 → c ≠ 3 → s' c = s c)) ∧ (carOk kind number lane ∧ ¬ n < 6 → RUN (d + 2) mX1_welcome [vr 1 0, vi kind, vi number, vi lane] s = some (some (vi (-4)), s)) ∧ (¬ carOk kind number lane → RUN (d + 2) mX1_welcome [vr 1 0, vi kind, vi number, vi lane] s = some (some (vi (-2)), s)) := by
  have hw := welcome_ok (d := d) (kind := kind) (number := number) (lane := lane) h.1 h6
  refine ⟨fun ⟨q1, q2⟩ => ?_, fun ⟨q1, q2⟩ => ?_, fun q => ?_⟩
  · rw [hw, if_pos q1, if_pos q2]
    refine ⟨_, rfl, ⟨?_, fun c hc f hf => ?_⟩, fun c q1 q2 => ?_⟩
    · unfold newCar
      rw [up_c (by decide), up_c (by decide), up_c (by decide), up_c (by decide), up_c (by decide), up_c (by decide), up_hit]; omega
    · unfold newCar fnew
      simp only [up_ap]
      by_cases e : c = n
      · have hf : f = 0 ∨ f = 1 ∨ f = 2 ∨ f = 3 ∨ f = 4 ∨ f = 5 := by omega
        rcases hf with rfl | rfl | rfl | rfl | rfl | rfl <;> simp [e]
      · have := h.2 c (by omega) f hf
        simp [e, this]
    · unfold newCar
      rw [up_c q2, up_c q2, up_c q2, up_c q2, up_c q2, up_c q2, up_c q1]
  · rw [hw, if_pos q1, if_neg q2]
  · rw [hw, if_neg q]
theorem car64 {kind number lane : Int} {z1 : PV} {d : Nat} (h9 : s 32 0 9 = (n : Int)) (hn : n < 6) : ∃ s', EV d mX9_car (64, [vr 32 0, z1, vi number, vi lane, vi 0], [], s) = some (some (vi (n : Int)), s') ∧ s' 32 0 9 = ((n + 1 : Nat) : Int) ∧ (∀ f, f < 5 → s' 37 0 (5 * n + f) = if f = 0 then number else if f = 2 then lane else 0) ∧ (∀ i, i < 5 * n → s' 37 0 i = s 37 0 i) ∧ (∀ c, c ≠ 32 → c ≠ 37 → s' c = s c) ∧ (∀ i, i ≠ 9 → s' 32 0 i = s 32 0 i) := by
  have g0 : w32 (w32 (5 * (n : Int)) + 0) = ((5 * n + 0 : Nat) : Int) := by rw [r0 hn, w32_id (by omega) (by omega)]; omega
  have one : ∀ (s1 : Sg) (k : Nat) (y : Int), k < 5 → EV d mX9_car (103, [vr 32 0, z1, vi number, vi lane, vi (k : Int)], [vi y, vi ((5 * n + k : Nat) : Int), vr 37 0], s1) = EV d mX9_car (64, [vr 32 0, z1, vi number, vi lane, vi ((k + 1 : Nat) : Int)], [], up s1 37 0 (5 * n + k) y) := by
    intro s1 k y hk
    rw [qX9_car_103, if_pos (inbN (by omega)), Int.toNat_natCast, w32_id (by omega) (by omega), show (k : Int) + 1 = ((k + 1 : Nat) : Int) by omega]
  have u9 : ∀ (s1 : Sg) (i : Nat) (y : Int), s1 32 0 9 = (n : Int) → up s1 37 0 i y 32 0 9 = (n : Int) := fun s1 i y h => by rw [up_c (by decide)]; exact h
  have st0 : ∀ s1 : Sg, s1 32 0 9 = (n : Int) → EV d mX9_car (64, [vr 32 0, z1, vi number, vi lane, vi 0], [], s1) = EV d mX9_car (64, [vr 32 0, z1, vi number, vi lane, vi 1], [], up s1 37 0 (5 * n + 0) number) := by
    intro s1 h
    rw [qX9_car_64, if_pos (by decide), if_pos rfl, h, g0]
    exact one s1 0 number (by omega)
  have st1 : ∀ s1 : Sg, s1 32 0 9 = (n : Int) → EV d mX9_car (64, [vr 32 0, z1, vi number, vi lane, vi 1], [], s1) = EV d mX9_car (64, [vr 32 0, z1, vi number, vi lane, vi 2], [], up s1 37 0 (5 * n + 1) 0) := by
    intro s1 h
    rw [qX9_car_64, if_pos (by decide), if_neg (by decide), if_neg (by decide), h, r1 hn]
    exact one s1 1 0 (by omega)
  have st2 : ∀ s1 : Sg, s1 32 0 9 = (n : Int) → EV d mX9_car (64, [vr 32 0, z1, vi number, vi lane, vi 2], [], s1) = EV d mX9_car (64, [vr 32 0, z1, vi number, vi lane, vi 3], [], up s1 37 0 (5 * n + 2) lane) := by
    intro s1 h
    rw [qX9_car_64, if_pos (by decide), if_neg (by decide), if_pos rfl, h, r2 hn]
    exact one s1 2 lane (by omega)
  have st3 : ∀ s1 : Sg, s1 32 0 9 = (n : Int) → EV d mX9_car (64, [vr 32 0, z1, vi number, vi lane, vi 3], [], s1) = EV d mX9_car (64, [vr 32 0, z1, vi number, vi lane, vi 4], [], up s1 37 0 (5 * n + 3) 0) := by
    intro s1 h
    rw [qX9_car_64, if_pos (by decide), if_neg (by decide), if_neg (by decide), h, r3 hn]
    exact one s1 3 0 (by omega)
  have st4 : ∀ s1 : Sg, s1 32 0 9 = (n : Int) → EV d mX9_car (64, [vr 32 0, z1, vi number, vi lane, vi 4], [], s1) = EV d mX9_car (64, [vr 32 0, z1, vi number, vi lane, vi 5], [], up s1 37 0 (5 * n + 4) 0) := by
    intro s1 h
    rw [qX9_car_64, if_pos (by decide), if_neg (by decide), if_neg (by decide), h, r4 hn]
    exact one s1 4 0 (by omega)
  have k1 := u9 s (5 * n + 0) number h9
  have k2 := u9 _ (5 * n + 1) 0 k1
  have k3 := u9 _ (5 * n + 2) lane k2
  have k4 := u9 _ (5 * n + 3) 0 k3
  have k5 := u9 _ (5 * n + 4) 0 k4
  rw [st0 s h9, st1 _ k1, st2 _ k2, st3 _ k3, st4 _ k4, qX9_car_64, if_neg (by decide), k5, w32_id (x := (n : Int) + 1) (by omega) (by omega), w32_id (by omega) (by omega), show (n : Int) + 1 - 1 = (n : Int) by omega]
  refine ⟨_, rfl, by rw [up_hit]; omega, fun f hf => ?_, fun i hi => ?_, fun c q1 q2 => ?_, fun i hi => ?_⟩
  · rw [up_c (by decide)]
    simp only [up_ap]
    have hf : f = 0 ∨ f = 1 ∨ f = 2 ∨ f = 3 ∨ f = 4 := by omega
    rcases hf with rfl | rfl | rfl | rfl | rfl <;> simp
  · rw [up_c (by decide), up_i (by omega), up_i (by omega), up_i (by omega), up_i (by omega), up_i (by omega)]
  · rw [up_c q1, up_c q2, up_c q2, up_c q2, up_c q2, up_c q2]
  · rw [up_i hi, up_c (by decide), up_c (by decide), up_c (by decide), up_c (by decide), up_c (by decide)]
end P2
