/-! LAW 4: car, cars, taken -/
section P3
variable {ft : Ft} {n : Nat} {sm : Nat → Sem × Sem × Sem} {tn t : Nat} {s s' : Sg} {d : Nat}
def frCr (s s' : Sg) : Prop := (∀ c, c ≠ 32 → c ≠ 36 → c ≠ 37 → s' c = s c) ∧ (∀ i, i ≠ 9 → s' 32 0 i = s 32 0 i)
theorem newR {kind number lane : Int} (h : ftRf ft n s) (h6 : n ≤ 6) : (carOk kind number lane ∧ n < 6 → ∃ s', RUN (d + 1) mX9_car [vr 32 0, vi kind, vi number, vi lane] s = some (some (vi (n : Int)), s') ∧ ftRf (fnew ft n kind number lane) (n + 1) s' ∧ frCr s s') ∧ (carOk kind number lane ∧ ¬ n < 6 → RUN (d + 1) mX9_car [vr 32 0, vi kind, vi number, vi lane] s = some (some (vi (-4)), s)) ∧ (¬ carOk kind number lane → RUN (d + 1) mX9_car [vr 32 0, vi kind, vi number, vi lane] s = some (some (vi (-2)), s)) := by
  rw [qX9_car, in_ok, bI_s, b01]
  by_cases c1 : 0 ≤ kind ∧ kind ≤ 5
  · rw [if_pos c1, in_ok, bI_s, b01]
    by_cases c2 : 0 ≤ number ∧ number ≤ 9
    · rw [if_pos c2, in_ok, bI_s, b01]
      by_cases c3 : 0 ≤ lane ∧ lane ≤ 3
      · rw [if_pos c3, h.1]
        refine ⟨fun ⟨q1, q2⟩ => ?_, fun ⟨q1, q2⟩ => ?_, fun q => absurd ⟨c1.1, c1.2, c2.1, c2.2, c3.1, c3.2⟩ q⟩
        · rw [if_neg (show ¬ (n : Int) = 6 by omega), if_pos (inbN q2), Int.toNat_natCast]
          obtain ⟨s', a1, a2, a3, a4, a5, a6⟩ := car64 (s := up s 36 0 n kind) (n := n) (kind := kind) (number := number) (lane := lane) (z1 := vi kind) (d := d + 1) (by rw [up_c (by decide)]; exact h.1) q2
          refine ⟨s', a1, ⟨a2, fun c hc => ⟨fun f hf => ?_, ?_⟩⟩, fun c q1 q2 q3 => (a5 c q1 q3).trans (up_c q2), fun i hi => (a6 i hi).trans (by rw [up_c (by decide)])⟩
          · unfold fnew
            by_cases e : c = n
            · subst e
              rw [a3 f hf, if_pos rfl]
              by_cases f0 : f = 0
              · rw [if_pos f0, if_pos f0]
              · rw [if_neg f0, if_neg f0]
                by_cases f2 : f = 2
                · rw [if_pos f2, if_pos f2]
                · rw [if_neg f2, if_neg f2, if_neg (by omega)]
            · rw [if_neg e, a4 _ (by omega), up_c (by decide)]
              exact (h.2 c (by omega)).1 f hf
          · unfold fnew
            rw [a5 36 (by decide) (by decide)]
            by_cases e : c = n
            · subst e
              rw [up_hit, if_pos rfl, if_neg (by decide), if_neg (by decide), if_pos rfl]
            · rw [up_i e, if_neg e]
              exact (h.2 c (by omega)).2
        · rw [if_pos (show (n : Int) = 6 by omega)]
      · rw [if_neg c3]
        exact ⟨fun q => absurd ⟨q.1.2.2.2.2.1, q.1.2.2.2.2.2⟩ c3, fun q => absurd ⟨q.1.2.2.2.2.1, q.1.2.2.2.2.2⟩ c3, fun _ => rfl⟩
    · rw [if_neg c2]
      exact ⟨fun q => absurd ⟨q.1.2.2.1, q.1.2.2.2.1⟩ c2, fun q => absurd ⟨q.1.2.2.1, q.1.2.2.2.1⟩ c2, fun _ => rfl⟩
  · rw [if_neg c1]
    exact ⟨fun q => absurd ⟨q.1.1, q.1.2.1⟩ c1, fun q => absurd ⟨q.1.1, q.1.2.1⟩ c1, fun _ => rfl⟩
/-- fleets have grown on both sides -/
theorem INV_grow {ft' : Ft} {n' : Nat} {s1 s2 : Sg} (h : INVp ft n sm tn t s) (hn : n ≤ n') (f1 : ∀ c, c ≠ 1 → c ≠ 3 → s1 c = s c) (g1 : ftC ft' n' s1) (g3 : ftOk ft' n') (f2 : frCr s1 s2) (g2 : ftRf ft' n' s2) : INVp ft' n' sm tn t s2 := by
  obtain ⟨⟨i1, i2, i3⟩, i4, ⟨i5, i6⟩, i7, i8, i9⟩ := h
  have fc : ∀ c, c ≠ 1 → c ≠ 3 → c ≠ 32 → c ≠ 36 → c ≠ 37 → s2 c = s c := fun c q1 q2 q3 q4 q5 => (f2.1 c q3 q4 q5).trans (f1 c q1 q2)
  have f32 : ∀ i, i ≠ 9 → s2 32 0 i = s 32 0 i := fun i hi => (f2.2 i hi).trans (by rw [f1 32 (by decide) (by decide)])
  refine ⟨⟨ftC_fr g1 (f2.1 1 (by decide) (by decide) (by decide)) (f2.1 3 (by decide) (by decide) (by decide)), g2, g3⟩, ?_, ⟨?_, ?_⟩, ?_, ?_, ?_⟩
  · exact txB_fr i4 (fc 4 (by decide) (by decide) (by decide) (by decide) (by decide)) (fc 6 (by decide) (by decide) (by decide) (by decide) (by decide)) (fc 8 (by decide) (by decide) (by decide) (by decide) (by decide)) (fc 33 (by decide) (by decide) (by decide) (by decide) (by decide)) (fc 34 (by decide) (by decide) (by decide) (by decide) (by decide)) (f32 3 (by decide)) (f32 4 (by decide))
  · rw [fc 13 (by decide) (by decide) (by decide) (by decide) (by decide)]; exact i5
  · rw [f32 25 (by decide)]; exact i6
  · exact tpB_fr i7 (by rw [fc 11 (by decide) (by decide) (by decide) (by decide) (by decide)]) (fc 12 (by decide) (by decide) (by decide) (by decide) (by decide)) (fc 35 (by decide) (by decide) (by decide) (by decide) (by decide)) (f32 6 (by decide))
  · exact shB_fr i8 (fc 30 (by decide) (by decide) (by decide) (by decide) (by decide)) (fc 31 (by decide) (by decide) (by decide) (by decide) (by decide)) (fc 48 (by decide) (by decide) (by decide) (by decide) (by decide)) (fc 49 (by decide) (by decide) (by decide) (by decide) (by decide)) (fc 50 (by decide) (by decide) (by decide) (by decide) (by decide)) (fc 51 (by decide) (by decide) (by decide) (by decide) (by decide))
  · exact kpB_fr i9 hn (fc 26 (by decide) (by decide) (by decide) (by decide) (by decide)) (fc 28 (by decide) (by decide) (by decide) (by decide) (by decide)) (fc 47 (by decide) (by decide) (by decide) (by decide) (by decide)) (f32 38 (by decide)) (f32 39 (by decide))
theorem p_car (x y w : Int) : PAIR mX8_car mX9_car [vi x, vi y, vi w] := by
  intro s ⟨ft, n, sm, tn, t, h⟩
  have h6 := h.1.2.2.1
  obtain ⟨A1, A2, A3⟩ := newC (d := 57) (kind := x) (number := y) (lane := w) h.1.1 h6
  obtain ⟨B1, B2, B3⟩ := newR (d := 59) (kind := x) (number := y) (lane := w) h.1.2.1 h6
  rw [qX8_car]
  by_cases hk : carOk x y w
  · by_cases hn : n < 6
    · obtain ⟨s1, a1, a2, a3⟩ := A1 ⟨hk, hn⟩
      have hR1 : ftRf ft n s1 := ftRf_fr h.1.2.1 (by rw [a3 32 (by decide) (by decide)]) (a3 36 (by decide) (by decide)) (a3 37 (by decide) (by decide))
      obtain ⟨s2, b1, b2, b3⟩ := (newR (d := 59) (kind := x) (number := y) (lane := w) hR1 h6).1 ⟨hk, hn⟩
      refine ⟨vi (n : Int), s1, s2, by rw [a1, bI_s], b1, fnew ft n x y w, n + 1, sm, tn, t, INV_grow h (by omega) a3 a2 (fnew_ok h.1.2.2 hn hk) b3 b2⟩
    · exact ⟨vi (-4), s, s, by rw [A2 ⟨hk, hn⟩, bI_s], B2 ⟨hk, hn⟩, ft, n, sm, tn, t, h⟩
  · exact ⟨vi (-2), s, s, by rw [A3 hk, bI_s], B3 hk, ft, n, sm, tn, t, h⟩
theorem isShC {x : Int} : RUN d mX8_isSheet [vi x] s = some (some (vi (if 0 ≤ x ∧ x < 4 then 1 else 0)), s) := by
  rw [qX8_isSheet]
  by_cases q1 : x < 0
  · rw [if_pos q1, if_neg (by omega)]
  · rw [if_neg q1]
    by_cases q2 : x < 4
    · rw [if_pos q2, if_pos (by omega)]
    · rw [if_neg q2, if_neg (by omega)]
theorem isShR {x : Int} : RUN (d + 1) mX9_isSheet [vi x] s = some (some (vi (if 0 ≤ x ∧ x < 4 then 1 else 0)), s) := by
  rw [qX9_isSheet, in_ok, bI_s, if_pos b01r]
  by_cases q : 0 ≤ x ∧ x < 4
  · rw [if_pos q, if_pos (by omega)]
  · rw [if_neg q, if_neg (by omega)]
theorem runC {j : Nat} {i m : Int} (hz : 0 ≤ s 30 j 2 ∧ s 30 j 2 ≤ 40) : RUN d mX6_hasRun [vr 30 j, vi i, vi m] s = some (some (vi (if 0 ≤ i ∧ 0 ≤ m ∧ i + m ≤ s 30 j 2 then 1 else 0)), s) := by
  rw [qX6_hasRun]
  by_cases q1 : i < 0
  · rw [if_pos q1, if_neg (by omega)]
  rw [if_neg q1]
  by_cases q2 : m < 0
  · rw [if_pos q2, if_neg (by omega)]
  rw [if_neg q2]
  by_cases q3 : s 30 j 2 < i
  · rw [if_pos q3, if_neg (by omega)]
  rw [if_neg q3, w32_id (by omega) (by omega)]
  by_cases q4 : s 30 j 2 - i < m
  · rw [if_pos q4, if_neg (by omega)]
  · rw [if_neg q4, if_pos (by omega)]
theorem itemC {j : Nat} {i : Int} (hz : 0 ≤ s 30 j 2 ∧ s 30 j 2 ≤ 40) (hi : 0 ≤ i ∧ i < s 30 j 2) : RUN d mX6_item [vr 30 j, vi i] s = some (some (vi (s 31 j i.toNat)), s) := by
  rw [qX6_item, if_neg (by omega), if_pos hi.2, if_pos (show inb i 40 by constructor <;> omega)]
theorem missC {j : Nat} : RUN d mX6_isMissing [vr 30 j] s = some (some (vi (if s 30 j 1 = -1 then 1 else 0)), s) := by
  rw [qX6_isMissing]
  by_cases q : s 30 j 1 = -1
  · rw [if_pos q, if_pos q]
  · rw [if_neg q, if_neg q]
/-- cars by a row: what is answered, who is there then -/
def carsI (it : Nat → Int) (size : Int) : Nat → Int → Ft → Nat → Int → Int × Ft × Nat
  | 0, _, ft, n, came => (came, ft, n)
  | m + 1, at_, ft, n, came => if 0 ≤ at_ ∧ at_ + 3 ≤ size then (if carOk (it at_.toNat) (it (at_ + 1).toNat) (it (at_ + 2).toNat) ∧ n < 6 then carsI it size m (at_ + 3) (fnew ft n (it at_.toNat) (it (at_ + 1).toNat) (it (at_ + 2).toNat)) (n + 1) (came + 1) else carsI it size m (at_ + 3) ft n came) else (-12, ft, n)
theorem carsI_ok {it : Nat → Int} {size : Int} : ∀ (m : Nat) (at_ : Int) (ft : Ft) (n : Nat) (came : Int), ftOk ft n → ftOk (carsI it size m at_ ft n came).2.1 (carsI it size m at_ ft n came).2.2 ∧ n ≤ (carsI it size m at_ ft n came).2.2
  | 0, _, _, _, _, h => ⟨h, Nat.le_refl _⟩
  | m + 1, at_, ft, n, came, h => by
    rw [carsI]
    by_cases q : 0 ≤ at_ ∧ at_ + 3 ≤ size
    · rw [if_pos q]
      by_cases q2 : carOk (it at_.toNat) (it (at_ + 1).toNat) (it (at_ + 2).toNat) ∧ n < 6
      · rw [if_pos q2]
        have := carsI_ok (it := it) (size := size) m (at_ + 3) _ (n + 1) (came + 1) (fnew_ok h q2.2 q2.1)
        exact ⟨this.1, by omega⟩
      · rw [if_neg q2]
        exact carsI_ok m (at_ + 3) ft n came h
    · rw [if_neg q]
      exact ⟨h, Nat.le_refl _⟩
theorem carsC {j : Nat} {z1 z2 z3 : PV} {N : Nat} (hN : N ≤ 6) : ∀ (m k : Nat) (at_ : Int) (ft : Ft) (n : Nat) (came : Int) (s0 s : Sg), k + m = N → (0 ≤ came ∧ came ≤ 100 + k) → ftC ft n s → n ≤ 6 → (0 ≤ s 30 j 2 ∧ s 30 j 2 ≤ 40) → (∀ c, c ≠ 1 → c ≠ 3 → s c = s0 c) → ∃ s', EV (d + 3) mX8_cars (71, [vr 0 0, z1, z2, z3, vi (N : Int), vr 30 j, vi came, vi at_, vi (k : Int)], [], s) = some (some (vi (carsI (s 31 j) (s 30 j 2) m at_ ft n came).1), s') ∧ ftC (carsI (s 31 j) (s 30 j 2) m at_ ft n came).2.1 (carsI (s 31 j) (s 30 j 2) m at_ ft n came).2.2 s' ∧ (∀ c, c ≠ 1 → c ≠ 3 → s' c = s0 c) := by
  intro m
  induction m with
  | zero =>
    intro k at_ ft n came s0 s hk hcm h h6 hz hf
    rw [qX8_cars_71, if_neg (by omega)]
    exact ⟨s, rfl, h, hf⟩
  | succ m ih =>
    intro k at_ ft n came s0 s hk hcm h h6 hz hf
    rw [qX8_cars_71, if_pos (by omega), runC hz, bI_s, b01, carsI]
    by_cases q : 0 ≤ at_ ∧ at_ + 3 ≤ s 30 j 2
    · rw [if_pos (show 0 ≤ at_ ∧ (0 : Int) ≤ 3 ∧ at_ + 3 ≤ s 30 j 2 by omega), if_pos q, itemC hz (by omega), bI_s, w32_id (x := at_ + 1) (by omega) (by omega), itemC hz (by omega), bI_s, w32_id (x := at_ + 2) (by omega) (by omega), itemC hz (by omega), bI_s]
      obtain ⟨A1, A2, A3⟩ := newC (d := d) (kind := s 31 j at_.toNat) (number := s 31 j (at_ + 1).toNat) (lane := s 31 j (at_ + 2).toNat) h h6
      by_cases q2 : carOk (s 31 j at_.toNat) (s 31 j (at_ + 1).toNat) (s 31 j (at_ + 2).toNat) ∧ n < 6
      · obtain ⟨s1, a1, a2, a3⟩ := A1 q2
        have e30 := a3 30 (by decide) (by decide)
        have e31 := a3 31 (by decide) (by decide)
        rw [if_pos q2, a1, bI_s, if_neg (by omega), qX8_cars_130, w32_id (by omega) (by omega), w32_id (by omega) (by omega), w32_id (by omega) (by omega), show (k : Int) + 1 = ((k + 1 : Nat) : Int) by omega, ← e30, ← e31]
        exact ih (k + 1) (at_ + 3) _ (n + 1) (came + 1) s0 s1 (by omega) (by omega) (by rw [e31]; exact a2) (by omega) (by rw [e30]; exact hz) (fun c q1 q3 => (a3 c q1 q3).trans (hf c q1 q3))
      · have hres : ∃ r : Int, r < 0 ∧ RUN (d + 2) mX1_welcome [vr 1 0, vi (s 31 j at_.toNat), vi (s 31 j (at_ + 1).toNat), vi (s 31 j (at_ + 2).toNat)] s = some (some (vi r), s) := by
          by_cases q3 : carOk (s 31 j at_.toNat) (s 31 j (at_ + 1).toNat) (s 31 j (at_ + 2).toNat)
          · exact ⟨-4, by decide, A2 ⟨q3, fun x => q2 ⟨q3, x⟩⟩⟩
          · exact ⟨-2, by decide, A3 q3⟩
        obtain ⟨r, hr, hr2⟩ := hres
        rw [if_neg q2, hr2, bI_s, if_pos hr, qX8_cars_130, w32_id (by omega) (by omega), w32_id (by omega) (by omega), show (k : Int) + 1 = ((k + 1 : Nat) : Int) by omega]
        exact ih (k + 1) (at_ + 3) ft n came s0 s (by omega) (by omega) h h6 hz hf
    · rw [if_neg (show ¬ (0 ≤ at_ ∧ (0 : Int) ≤ 3 ∧ at_ + 3 ≤ s 30 j 2) by omega), if_neg q]
      exact ⟨s, rfl, h, hf⟩
theorem carsR {j : Nat} {z2 z7 : PV} {N : Nat} {it : Nat → Int} {size a0 : Int} (hj : j < 4) (hN : N ≤ 6) (hsz : 0 ≤ size ∧ size ≤ 40) : ∀ (m k : Nat) (ft : Ft) (n : Nat) (came : Int) (z7 : PV) (s0 s : Sg), k + m = N → (k = 0 ∨ (0 ≤ a0 ∧ a0 ≤ 40)) → (0 ≤ came ∧ came ≤ 100 + k) → ftRf ft n s → n ≤ 6 → s 50 0 j = size → (∀ i : Nat, (i : Int) < size → s 51 0 (40 * j + i) = it i) → frCr s0 s → ∃ s', EV (d + 2) mX9_cars (75, [vr 32 0, vi (j : Int), z2, vi a0, vi (N : Int), vi came, vi (k : Int), z7], [], s) = some (some (vi (carsI it size m (a0 + 3 * k) ft n came).1), s') ∧ ftRf (carsI it size m (a0 + 3 * k) ft n came).2.1 (carsI it size m (a0 + 3 * k) ft n came).2.2 s' ∧ frCr s0 s' := by
  intro m
  induction m with
  | zero =>
    intro k ft n came z7 s0 s hk ha hcm h h6 hz hit hf
    rw [qX9_cars_75, if_neg (by omega)]
    exact ⟨s, rfl, h, hf⟩
  | succ m ih =>
    intro k ft n came z7 s0 s hk ha hcm h h6 hz hit hf
    rw [qX9_cars_75, if_pos (by omega), carsI]
    by_cases q0 : a0 < 0
    · rw [if_pos q0, if_neg (by omega)]
      exact ⟨s, rfl, h, hf⟩
    rw [if_neg q0, if_pos (inbN hj), Int.toNat_natCast, hz, w32_id (x := 3 * (k : Int)) (by omega) (by omega), w32_id (x := size - 3 * (k : Int)) (by omega) (by omega), w32_id (x := size - 3 * (k : Int) - 3) (by omega) (by omega)]
    by_cases q1 : size - 3 * (k : Int) - 3 < a0
    · rw [if_pos q1, if_neg (by omega)]
      exact ⟨s, rfl, h, hf⟩
    obtain ⟨a, rfl⟩ : ∃ a : Nat, a0 = (a : Int) := ⟨a0.toNat, by omega⟩
    rw [if_neg q1, if_pos (show 0 ≤ (a : Int) + 3 * (k : Int) ∧ (a : Int) + 3 * (k : Int) + 3 ≤ size by omega)]
    have e0 : w32 (w32 (w32 (40 * (j : Int)) + (a : Int)) + 3 * (k : Int)) = ((40 * j + (a + 3 * k) : Nat) : Int) := by
      rw [w32_id (x := 40 * (j : Int)) (by omega) (by omega), w32_id (x := 40 * (j : Int) + (a : Int)) (by omega) (by omega), w32_id (by omega) (by omega)]; omega
    have e1 : w32 (((40 * j + (a + 3 * k) : Nat) : Int) + 1) = ((40 * j + (a + 3 * k + 1) : Nat) : Int) := by rw [w32_id (by omega) (by omega)]; omega
    have e2 : w32 (((40 * j + (a + 3 * k) : Nat) : Int) + 2) = ((40 * j + (a + 3 * k + 2) : Nat) : Int) := by rw [w32_id (by omega) (by omega)]; omega
    have t0 : ((a : Int) + 3 * (k : Int)).toNat = a + 3 * k := by omega
    have t1 : ((a : Int) + 3 * (k : Int) + 1).toNat = a + 3 * k + 1 := by omega
    have t2 : ((a : Int) + 3 * (k : Int) + 2).toNat = a + 3 * k + 2 := by omega
    rw [e0, e1, e2, if_pos (inbN (by omega)), if_pos (inbN (by omega)), if_pos (inbN (by omega)), Int.toNat_natCast, Int.toNat_natCast, Int.toNat_natCast, hit _ (by omega), hit _ (by omega), hit _ (by omega), t0, t1, t2]
    obtain ⟨A1, A2, A3⟩ := newR (d := d) (kind := it (a + 3 * k)) (number := it (a + 3 * k + 1)) (lane := it (a + 3 * k + 2)) h h6
    by_cases q2 : carOk (it (a + 3 * k)) (it (a + 3 * k + 1)) (it (a + 3 * k + 2)) ∧ n < 6
    · obtain ⟨s1, a1, a2, a3⟩ := A1 q2
      have e50 := a3.1 50 (by decide) (by decide) (by decide)
      have e51 := a3.1 51 (by decide) (by decide) (by decide)
      rw [if_pos q2, a1, bI_s, if_neg (by omega), qX9_cars_158, w32_id (by omega) (by omega), w32_id (by omega) (by omega), show (k : Int) + 1 = ((k + 1 : Nat) : Int) by omega, show (a : Int) + 3 * (k : Int) + 3 = (a : Int) + 3 * ((k + 1 : Nat) : Int) by omega]
      exact ih (k + 1) _ (n + 1) (came + 1) _ s0 s1 (by omega) (Or.inr (by omega)) (by omega) a2 (by omega) (by rw [e50]; exact hz) (by rw [e51]; exact hit) ⟨fun c p1 p2 p3 => (a3.1 c p1 p2 p3).trans (hf.1 c p1 p2 p3), fun i hi => (a3.2 i hi).trans (hf.2 i hi)⟩
    · have hres : ∃ r : Int, r < 0 ∧ RUN (d + 1) mX9_car [vr 32 0, vi (it (a + 3 * k)), vi (it (a + 3 * k + 1)), vi (it (a + 3 * k + 2))] s = some (some (vi r), s) := by
        by_cases q3 : carOk (it (a + 3 * k)) (it (a + 3 * k + 1)) (it (a + 3 * k + 2))
        · exact ⟨-4, by decide, A2 ⟨q3, fun x => q2 ⟨q3, x⟩⟩⟩
        · exact ⟨-2, by decide, A3 q3⟩
      obtain ⟨r, hr, hr2⟩ := hres
      rw [if_neg q2, hr2, bI_s, if_pos hr, qX9_cars_158, w32_id (x := came + 0) (by omega) (by omega), w32_id (by omega) (by omega), show (k : Int) + 1 = ((k + 1 : Nat) : Int) by omega, show came + 0 = came by omega, show (a : Int) + 3 * (k : Int) + 3 = (a : Int) + 3 * ((k + 1 : Nat) : Int) by omega]
      exact ih (k + 1) ft n came _ s0 s (by omega) (Or.inr (by omega)) (by omega) h h6 hz hit hf
end P3
