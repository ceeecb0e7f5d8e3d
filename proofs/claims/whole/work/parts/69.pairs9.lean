/-! LAW 10: sheet, cell -/
section P9
variable {ft : Ft} {n : Nat} {sm : Nat → Sem × Sem × Sem} {tn t : Nat} {s s' : Sg} {d : Nat}
/-- only sheet j has changed: class, reference -/
def frSC (j : Nat) (s s' : Sg) : Prop := (∀ c, c ≠ 30 → c ≠ 31 → s' c = s c) ∧ (∀ j', j' ≠ j → s' 30 j' = s 30 j' ∧ s' 31 j' = s 31 j')
def frSR (j : Nat) (s s' : Sg) : Prop := (∀ c, c ≠ 48 → c ≠ 49 → c ≠ 50 → c ≠ 51 → s' c = s c) ∧ (∀ i, i ≠ j → s' 48 0 i = s 48 0 i ∧ s' 49 0 i = s 49 0 i ∧ s' 50 0 i = s 50 0 i) ∧ (∀ i, ¬ (40 * j ≤ i ∧ i < 40 * j + 40) → s' 51 0 i = s 51 0 i)
theorem frSC_tr {j : Nat} {s1 s2 s3 : Sg} (h1 : frSC j s1 s2) (h2 : frSC j s2 s3) : frSC j s1 s3 := ⟨fun c q1 q2 => (h2.1 c q1 q2).trans (h1.1 c q1 q2), fun j' q => ⟨(h2.2 j' q).1.trans (h1.2 j' q).1, (h2.2 j' q).2.trans (h1.2 j' q).2⟩⟩
theorem frSR_tr {j : Nat} {s1 s2 s3 : Sg} (h1 : frSR j s1 s2) (h2 : frSR j s2 s3) : frSR j s1 s3 := ⟨fun c q1 q2 q3 q4 => (h2.1 c q1 q2 q3 q4).trans (h1.1 c q1 q2 q3 q4), fun i q => ⟨(h2.2.1 i q).1.trans (h1.2.1 i q).1, (h2.2.1 i q).2.1.trans (h1.2.1 i q).2.1, (h2.2.1 i q).2.2.trans (h1.2.1 i q).2.2⟩, fun i q => (h2.2.2 i q).trans (h1.2.2 i q)⟩
theorem up_j {s : Sg} {c j i j' : Nat} {v : Int} (h : j' ≠ j) : up s c j i v c j' = s c j' := by
  funext i'
  rw [up_ap, if_neg (fun q => h q.2.1)]
/-- a sheet on both sides -/
theorem INV_sh {j : Nat} {s1 s2 : Sg} (hj : j < 4) (h : INVp ft n sm tn t s) (f1 : frSC j s s1) (f2 : frSR j s1 s2) (g : sh1 j s2) : INVp ft n sm tn t s2 := by
  obtain ⟨⟨i1, i2, i3⟩, i4, ⟨i5, i6⟩, i7, i8, i9⟩ := h
  have fc : ∀ c, c ≠ 30 → c ≠ 31 → c ≠ 48 → c ≠ 49 → c ≠ 50 → c ≠ 51 → s2 c = s c := fun c q1 q2 q3 q4 q5 q6 => (f2.1 c q3 q4 q5 q6).trans (f1.1 c q1 q2)
  have e32 : s2 32 = s 32 := fc 32 (by decide) (by decide) (by decide) (by decide) (by decide) (by decide)
  refine ⟨⟨ftC_fr i1 (fc 1 (by decide) (by decide) (by decide) (by decide) (by decide) (by decide)) (fc 3 (by decide) (by decide) (by decide) (by decide) (by decide) (by decide)), ftRf_fr i2 (by rw [e32]) (fc 36 (by decide) (by decide) (by decide) (by decide) (by decide) (by decide)) (fc 37 (by decide) (by decide) (by decide) (by decide) (by decide) (by decide)), i3⟩, txB_fr i4 (fc 4 (by decide) (by decide) (by decide) (by decide) (by decide) (by decide)) (fc 6 (by decide) (by decide) (by decide) (by decide) (by decide) (by decide)) (fc 8 (by decide) (by decide) (by decide) (by decide) (by decide) (by decide)) (fc 33 (by decide) (by decide) (by decide) (by decide) (by decide) (by decide)) (fc 34 (by decide) (by decide) (by decide) (by decide) (by decide) (by decide)) (by rw [e32]) (by rw [e32]), ⟨by rw [fc 13 (by decide) (by decide) (by decide) (by decide) (by decide) (by decide)]; exact i5, by rw [e32]; exact i6⟩, tpB_fr i7 (by rw [fc 11 (by decide) (by decide) (by decide) (by decide) (by decide) (by decide)]) (fc 12 (by decide) (by decide) (by decide) (by decide) (by decide) (by decide)) (fc 35 (by decide) (by decide) (by decide) (by decide) (by decide) (by decide)) (by rw [e32]), fun j' hj' => ?_, kpB_fr i9 (Nat.le_refl _) (fc 26 (by decide) (by decide) (by decide) (by decide) (by decide) (by decide)) (fc 28 (by decide) (by decide) (by decide) (by decide) (by decide) (by decide)) (fc 47 (by decide) (by decide) (by decide) (by decide) (by decide) (by decide)) (by rw [e32]) (by rw [e32])⟩
  by_cases e : j' = j
  · rw [e]; exact g
  · have h8 := i8 j' hj'
    have e30 : s2 30 j' = s 30 j' := by rw [f2.1 30 (by decide) (by decide) (by decide) (by decide)]; exact (f1.2 j' e).1
    have e31 : s2 31 j' = s 31 j' := by rw [f2.1 31 (by decide) (by decide) (by decide) (by decide)]; exact (f1.2 j' e).2
    obtain ⟨k1, k2, k3⟩ := f2.2.1 j' e
    unfold sh1 at h8 ⊢
    rw [e30, e31, k1, k2, k3, f1.1 48 (by decide) (by decide), f1.1 49 (by decide) (by decide), f1.1 50 (by decide) (by decide)]
    obtain ⟨q1, q2, q3, q4⟩ := h8
    refine ⟨q1, q2, q3, fun hn => ?_⟩
    obtain ⟨p1, p2, p3, p4⟩ := q4 hn
    refine ⟨p1, p2, p3, fun i hi => ?_⟩
    rw [f2.2.2 _ (by omega), f1.1 51 (by decide) (by decide)]
    exact p4 i hi
theorem becL {j : Nat} {z1 z2 : PV} {m : Nat} (hm : m ≤ 40) : ∀ (k x : Nat) (s : Sg), x + k = m → s 30 j 2 = (m : Int) → (∀ i, i < x → s 31 j i = 0) → ∃ s', EV d mX6_become (21, [vr 30 j, z1, z2, vi (x : Int)], [], s) = some (none, s') ∧ (∀ i, i < m → s' 31 j i = 0) ∧ s' 30 = s 30 ∧ (∀ c, c ≠ 31 → s' c = s c) ∧ (∀ j', j' ≠ j → s' 31 j' = s 31 j') := by
  intro k
  induction k with
  | zero =>
    intro x s hx hz hr
    have hx : x = m := by omega
    subst hx
    rw [qX6_become_21, hz, if_neg (by omega)]
    exact ⟨s, rfl, hr, rfl, fun _ _ => rfl, fun _ _ => rfl⟩
  | succ k ih =>
    intro x s hx hz hr
    rw [qX6_become_21, hz, if_pos (by omega), if_pos (inbN (by omega)), Int.toNat_natCast, w32_id (by omega) (by omega), show (x : Int) + 1 = ((x + 1 : Nat) : Int) by omega]
    obtain ⟨s', a1, a2, a3, a4, a5⟩ := ih (x + 1) (up s 31 j x 0) (by omega) (by rw [up_c (by decide)]; exact hz)
      (fun i hi => by
        by_cases e : i = x
        · rw [e, up_hit]
        · rw [up_i e]; exact hr i (by omega))
    exact ⟨s', a1, a2, a3.trans (up_c (by decide)), fun c hc => (a4 c hc).trans (up_c hc), fun j' hj' => (a5 j' hj').trans (up_j hj')⟩
theorem becC {j m : Nat} {so : Int} (hm : m ≤ 40) : ∃ s', RUN d mX6_become [vr 30 j, vi so, vi (m : Int)] s = some (none, s') ∧ s' 30 j 1 = so ∧ s' 30 j 2 = (m : Int) ∧ (∀ i, i < m → s' 31 j i = 0) ∧ frSC j s s' := by
  have e : wmax 0 (wmin 40 (m : Int)) = (m : Int) := by
    unfold wmax wmin
    by_cases q1 : (m : Int) < 40
    · rw [if_pos q1]
      by_cases q2 : (0 : Int) < (m : Int)
      · rw [if_pos q2]
      · rw [if_neg q2]; omega
    · rw [if_neg q1, if_pos (by decide)]; omega
  rw [qX6_become, e]
  obtain ⟨s', a1, a2, a3, a4, a5⟩ := becL (d := d) (j := j) (z1 := vi so) (z2 := vi (m : Int)) hm m 0 (up (up s 30 j 1 so) 30 j 2 (m : Int)) (by omega) (up_hit _ _ _ _ _) (fun i hi => by omega)
  refine ⟨s', a1, by rw [a3, up_i (by decide), up_hit], by rw [a3, up_hit], a2, fun c q1 q2 => by rw [a4 c q2, up_c q1, up_c q1], fun j' hj' => ⟨by rw [a3, up_j hj', up_j hj'], by rw [a5 j' hj', up_c (by decide), up_c (by decide)]⟩⟩
theorem shL {j m : Nat} {so : Int} (hj : j < 4) (hm : m ≤ 40) (hso : 0 ≤ so) : ∀ (k x : Nat) (s0 s : Sg), x + k = m → frSR j s0 s → (∀ i, i < x → s 51 0 (40 * j + i) = 0) → ∃ s', EV d mX9_sheet (77, [vr 32 0, vi (j : Int), vi so, vi (m : Int), vi (x : Int)], [], s) = some (some (vi 1), s') ∧ frSR j s0 s' ∧ (∀ i, i < m → s' 51 0 (40 * j + i) = 0) ∧ (∀ c, c ≠ 51 → s' c = s c) := by
  intro k
  induction k with
  | zero =>
    intro x s0 s hx hf hr
    have hx : x = m := by omega
    subst hx
    rw [qX9_sheet_77, if_neg (by omega)]
    exact ⟨s, rfl, hf, hr, fun _ _ => rfl⟩
  | succ k ih =>
    intro x s0 s hx hf hr
    have e : w32 (w32 (40 * (j : Int)) + (x : Int)) = ((40 * j + x : Nat) : Int) := by rw [w32_id (x := 40 * (j : Int)) (by omega) (by omega), w32_id (by omega) (by omega)]; omega
    rw [qX9_sheet_77, if_pos (by omega), if_neg (by omega), e, if_pos (inbN (by omega)), Int.toNat_natCast, w32_id (by omega) (by omega), show (x : Int) + 1 = ((x + 1 : Nat) : Int) by omega]
    obtain ⟨s', a1, a2, a3, a4⟩ := ih (x + 1) s0 (up s 51 0 (40 * j + x) 0) (by omega) (frSR_tr hf ⟨fun c _ _ _ q => up_c q, fun i _ => by rw [up_c (by decide), up_c (by decide), up_c (by decide)]; exact ⟨rfl, rfl, rfl⟩, fun i hi => up_i (by omega)⟩)
      (fun i hi => by
        by_cases e : i = x
        · rw [e, up_hit]
        · rw [up_i (by omega)]; exact hr i (by omega))
    exact ⟨s', a1, a2, a3, fun c hc => (a4 c hc).trans (up_c hc)⟩
/-- the reference lays a sheet of a sort -/
theorem shR {j m : Nat} {so : Int} (hj : j < 4) (hm : m ≤ 40) (hso : 0 ≤ so ∧ so ≤ 2) : ∃ s', RUN (d + 2) mX9_sheet [vr 32 0, vi (j : Int), vi so, vi (m : Int)] s = some (some (vi 1), s') ∧ s' 48 0 j = 1 ∧ s' 49 0 j = so ∧ s' 50 0 j = (m : Int) ∧ (∀ i, i < m → s' 51 0 (40 * j + i) = 0) ∧ frSR j s s' := by
  rw [qX9_sheet, isShR, bI_s, b01, if_pos (by omega), in_ok, bI_s, b01, if_pos (by omega), if_neg (by omega), if_neg (by omega), qX9_sheet_34, if_neg (by omega), if_neg (by omega), qX9_sheet_45, if_neg (by omega), qX9_sheet_59, if_pos (by decide), if_pos (inbN hj), if_pos (inbN hj), if_pos (inbN hj), Int.toNat_natCast]
  have hf : frSR j s (up (up (up s 48 0 j 1) 49 0 j so) 50 0 j (m : Int)) := ⟨fun c q1 q2 q3 _ => by rw [up_c q3, up_c q2, up_c q1], fun i hi => by
    rw [up_c (by decide), up_c (by decide), up_i hi, up_c (by decide), up_i hi, up_c (by decide), up_i hi, up_c (by decide), up_c (by decide)]
    exact ⟨rfl, rfl, rfl⟩, fun i _ => by rw [up_c (by decide), up_c (by decide), up_c (by decide)]⟩
  obtain ⟨s', a1, a2, a3, a4⟩ := shL (d := d + 2) (j := j) (m := m) (so := so) hj hm hso.1 m 0 s _ (by omega) hf (fun i hi => by omega)
  refine ⟨s', a1, ?_, ?_, ?_, a3, a2⟩
  · rw [a4 48 (by decide), up_c (by decide), up_c (by decide), up_hit]
  · rw [a4 49 (by decide), up_c (by decide), up_hit]
  · rw [a4 50 (by decide), up_hit]
theorem p_sheet (x y w : Int) : PAIR mX8_sheet mX9_sheet [vi x, vi y, vi w] := by
  intro s ⟨ft, n, sm, tn, t, h⟩
  have bad : ∀ r : Int, RUN 60 mX8_sheet [vr 0 0, vi x, vi y, vi w] s = some (some (vi r), s) → RUN 60 mX9_sheet [vr 32 0, vi x, vi y, vi w] s = some (some (vi r), s) → ∃ r s1 s2, RUN 60 mX8_sheet [vr 0 0, vi x, vi y, vi w] s = some (some r, s1) ∧ RUN 60 mX9_sheet [vr 32 0, vi x, vi y, vi w] s1 = some (some r, s2) ∧ INV s2 := fun r h1 h2 => ⟨vi r, s, s, h1, h2, ft, n, sm, tn, t, h⟩
  by_cases hx : 0 ≤ x ∧ x < 4
  · obtain ⟨j, rfl⟩ : ∃ j : Nat, x = (j : Int) := ⟨x.toNat, by omega⟩
    have hj : j < 4 := by omega
    by_cases hy : -1 ≤ y ∧ y ≤ 2
    · by_cases hn : y = -1
      · obtain ⟨s1, a1, a2, a3, a4, a5⟩ := becC (d := 59) (s := s) (j := j) (m := 0) (so := -1) (by omega)
        obtain ⟨s2, hs2, g48, g2⟩ : ∃ s2, up (up (up s1 48 0 j 0) 49 0 j y) 50 0 j w = s2 ∧ s2 48 0 j = 0 ∧ frSR j s1 s2 := ⟨_, rfl, by rw [up_c (by decide), up_c (by decide), up_hit], fun c q1 q2 q3 _ => by rw [up_c q3, up_c q2, up_c q1], fun i hi => by
          rw [up_c (by decide), up_c (by decide), up_i hi, up_c (by decide), up_i hi, up_c (by decide), up_i hi, up_c (by decide), up_c (by decide)]
          exact ⟨rfl, rfl, rfl⟩, fun i _ => by rw [up_c (by decide), up_c (by decide), up_c (by decide)]⟩
        refine ⟨vi 1, s1, s2, ?_, ?_, ft, n, sm, tn, t, INV_sh hj h a5 g2 ?_⟩
        · rw [qX8_sheet, isShC, bI_s, b01, if_pos hx, if_neg (by omega), if_pos (by omega), if_pos hn, if_pos (inbN hj), Int.toNat_natCast, show RUN 59 mX6_become [vr 30 j, vi (-1), vi 0] s = _ from a1, bV_s]
        · rw [qX9_sheet, isShR, bI_s, b01, if_pos hx, in_ok, bI_s, b01, if_pos hy, if_pos (by omega), qX9_sheet_34, if_pos (by omega), qX9_sheet_45, if_pos (by omega), qX9_sheet_59, if_pos (by decide), if_pos (inbN hj), if_pos (inbN hj), if_pos (inbN hj), Int.toNat_natCast, hs2, qX9_sheet_77]
          by_cases q : (0 : Int) < w
          · rw [if_pos q, if_pos (by omega)]
          · rw [if_neg q]
        · have e30 := g2.1 30 (by decide) (by decide) (by decide) (by decide)
          unfold sh1
          rw [e30, a2, a3, g48]
          exact ⟨by decide, by decide, fun _ => rfl, fun q => absurd rfl q⟩
      · by_cases hw : w ≤ 40
        · by_cases hw0 : w < 0
          · refine bad (-14) ?_ ?_
            · rw [qX8_sheet, isShC, bI_s, b01, if_pos hx, if_neg (by omega), if_pos (by omega), if_neg hn, if_neg (by omega), if_pos hw0]
            · rw [qX9_sheet, isShR, bI_s, b01, if_pos hx, in_ok, bI_s, b01, if_pos hy, if_neg (by omega), if_neg (by omega), qX9_sheet_34, if_neg (by omega), if_pos hw0]
          · obtain ⟨m, rfl⟩ : ∃ m : Nat, w = (m : Int) := ⟨w.toNat, by omega⟩
            obtain ⟨s1, a1, a2, a3, a4, a5⟩ := becC (d := 59) (s := s) (j := j) (m := m) (so := y) (by omega)
            obtain ⟨s2, b1, b2, b3, b4, b5, b6⟩ := shR (d := 58) (s := s1) (j := j) (m := m) (so := y) hj (by omega) (by omega)
            refine ⟨vi 1, s1, s2, ?_, b1, ft, n, sm, tn, t, INV_sh hj h a5 b6 ?_⟩
            · rw [qX8_sheet, isShC, bI_s, b01, if_pos hx, if_neg (by omega), if_pos (by omega), if_neg hn, if_neg (by omega), if_neg hw0, if_pos (inbN hj), Int.toNat_natCast, a1, bV_s]
            · have e30 := b6.1 30 (by decide) (by decide) (by decide) (by decide)
              have e31 := b6.1 31 (by decide) (by decide) (by decide) (by decide)
              unfold sh1
              rw [e30, e31, a2, a3]
              refine ⟨by omega, by omega, fun q => by omega, fun _ => ⟨b2, b3, b4, fun i hi => ?_⟩⟩
              rw [b5 i (by omega), a4 i (by omega)]
        · refine bad (-2) ?_ ?_
          · rw [qX8_sheet, isShC, bI_s, b01, if_pos hx, if_neg (by omega), if_pos (by omega), if_neg hn, if_pos (by omega)]
          · rw [qX9_sheet, isShR, bI_s, b01, if_pos hx, in_ok, bI_s, b01, if_pos hy, if_neg (by omega), if_pos (by omega)]
    · refine bad (-2) ?_ ?_
      · rw [qX8_sheet, isShC, bI_s, b01, if_pos hx]
        by_cases q : y < -1
        · rw [if_pos q]
        · rw [if_neg q, if_neg (by omega)]
      · rw [qX9_sheet, isShR, bI_s, b01, if_pos hx, in_ok, bI_s, b01, if_neg hy]
  · refine bad (-2) ?_ ?_
    · rw [qX8_sheet, isShC, bI_s, b01, if_neg hx]
    · rw [qX9_sheet, isShR, bI_s, b01, if_neg hx]
/-- as a sort takes it -/
def nrw (so x : Int) : Int := if so = 0 then wi2b x else if so = 1 then wi2s x else x
theorem putC {j : Nat} {i x : Int} (hz : 0 ≤ s 30 j 2 ∧ s 30 j 2 ≤ 40) (hi : 0 ≤ i ∧ i < s 30 j 2) : RUN (d + 1) mX6_put [vr 30 j, vi i, vi x] s = some (some (vi 1), up s 31 j i.toNat (nrw (s 30 j 1) x)) := by
  rw [qX6_put, if_neg (by omega), if_pos hi.2, qX6_narrow]
  unfold nrw
  by_cases q0 : s 30 j 1 = 0
  · rw [if_pos q0, bI_s, if_pos (show inb i 40 by constructor <;> omega), if_pos q0]
  rw [if_neg q0, if_neg q0]
  by_cases q1 : s 30 j 1 = 1
  · rw [if_pos q1, bI_s, if_pos (show inb i 40 by constructor <;> omega), if_pos q1]
  · rw [if_neg q1, bI_s, if_pos (show inb i 40 by constructor <;> omega), if_neg q1]
theorem p_cell (x y w : Int) : PAIR mX8_cell mX9_cell [vi x, vi y, vi w] := by
  intro s ⟨ft, n, sm, tn, t, h⟩
  have bad : ∀ r : Int, RUN 60 mX8_cell [vr 0 0, vi x, vi y, vi w] s = some (some (vi r), s) → RUN 60 mX9_cell [vr 32 0, vi x, vi y, vi w] s = some (some (vi r), s) → ∃ r s1 s2, RUN 60 mX8_cell [vr 0 0, vi x, vi y, vi w] s = some (some r, s1) ∧ RUN 60 mX9_cell [vr 32 0, vi x, vi y, vi w] s1 = some (some r, s2) ∧ INV s2 := fun r h1 h2 => ⟨vi r, s, s, h1, h2, ft, n, sm, tn, t, h⟩
  by_cases hx : 0 ≤ x ∧ x < 4
  · obtain ⟨j, rfl⟩ : ∃ j : Nat, x = (j : Int) := ⟨x.toNat, by omega⟩
    have hj : j < 4 := by omega
    obtain ⟨q1, q2, q3, q4⟩ := h.2.2.2.2.1 j hj
    by_cases hmis : s 30 j 1 = -1
    · refine bad (-11) ?_ ?_
      · rw [qX8_cell, isShC, bI_s, b01, if_pos hx, if_pos (inbN hj), Int.toNat_natCast, missC, bI_s, b01, if_pos hmis]
      · rw [qX9_cell, isShR, bI_s, b01, if_pos hx, if_pos (inbN hj), Int.toNat_natCast, if_pos (q3 hmis)]
    · obtain ⟨p1, p2, p3, p4⟩ := q4 hmis
      by_cases hy : 0 ≤ y ∧ y < s 30 j 2
      · obtain ⟨i, rfl⟩ : ∃ i : Nat, y = (i : Int) := ⟨y.toNat, by omega⟩
        obtain ⟨s1, hs1, g31, gf, gj⟩ : ∃ s1, up s 31 j i (nrw (s 30 j 1) w) = s1 ∧ (∀ i', s1 31 j i' = if i' = i then nrw (s 30 j 1) w else s 31 j i') ∧ (∀ c, c ≠ 31 → s1 c = s c) ∧ (∀ j', j' ≠ j → s1 31 j' = s 31 j') := ⟨_, rfl, fun i' => by rw [up_f]; rfl, fun c hc => up_c hc, fun j' hj' => up_j hj'⟩
        have f1 : frSC j s s1 := ⟨fun c _ q => gf c q, fun j' q => ⟨by rw [gf 30 (by decide)], gj j' q⟩⟩
        have e : w32 (w32 (40 * (j : Int)) + (i : Int)) = ((40 * j + i : Nat) : Int) := by rw [w32_id (x := 40 * (j : Int)) (by omega) (by omega), w32_id (by omega) (by omega)]; omega
        have f2 : frSR j s1 (up s1 51 0 (40 * j + i) (nrw (s 30 j 1) w)) := ⟨fun c _ _ _ q => up_c q, fun i' _ => by rw [up_c (by decide), up_c (by decide), up_c (by decide)]; exact ⟨rfl, rfl, rfl⟩, fun i' hi' => up_i (by omega)⟩
        refine ⟨vi 1, s1, up s1 51 0 (40 * j + i) (nrw (s 30 j 1) w), ?_, ?_, ft, n, sm, tn, t, INV_sh hj h f1 f2 ?_⟩
        · rw [qX8_cell, isShC, bI_s, b01, if_pos hx, if_pos (inbN hj), Int.toNat_natCast, missC, bI_s, b01, if_neg hmis, putC q2 hy, bI_s, if_neg i10, Int.toNat_natCast, hs1]
        · rw [qX9_cell, isShR, bI_s, b01, if_pos hx, if_pos (inbN hj), Int.toNat_natCast, gf 48 (by decide), if_neg (by omega), if_pos (inbN hj), gf 50 (by decide), p3, w32_id (by omega) (by omega), in_ok, bI_s, b01, if_pos (by omega), if_pos (inbN hj), gf 49 (by decide), p2, e, if_pos (inbN (by omega)), Int.toNat_natCast, if_pos (inbN hj), if_pos (inbN (by omega)), if_pos (inbN (by omega))]
          unfold nrw
          by_cases c0 : s 30 j 1 = 0
          · rw [if_pos c0, if_pos c0]
          · rw [if_neg c0, if_neg c0]
            by_cases c1 : s 30 j 1 = 1
            · rw [if_pos c1, if_pos c1]
            · rw [if_neg c1, if_neg c1]
        · unfold sh1
          rw [up_c (c' := 30) (by decide), up_c (c' := 48) (by decide), up_c (c' := 49) (by decide), up_c (c' := 50) (by decide), gf 30 (by decide), gf 48 (by decide), gf 49 (by decide), gf 50 (by decide)]
          refine ⟨q1, q2, q3, fun _ => ⟨p1, p2, p3, fun i' hi' => ?_⟩⟩
          rw [up_c (c' := 31) (by decide), g31]
          by_cases ei : i' = i
          · rw [ei, up_hit, if_pos rfl]
          · rw [up_i (by omega), if_neg ei, gf 51 (by decide)]; exact p4 i' hi'
      · refine bad (-12) ?_ ?_
        · rw [qX8_cell, isShC, bI_s, b01, if_pos hx, if_pos (inbN hj), Int.toNat_natCast, missC, bI_s, b01, if_neg hmis, qX6_put]
          by_cases q : y < 0
          · rw [if_pos q, bI_s, if_pos i00]
          · rw [if_neg q, if_neg (by omega), bI_s, if_pos i00]
        · rw [qX9_cell, isShR, bI_s, b01, if_pos hx, if_pos (inbN hj), Int.toNat_natCast, if_neg (by omega), if_pos (inbN hj), p3, w32_id (by omega) (by omega), in_ok, bI_s, b01, if_neg (by omega)]
  · refine bad (-2) ?_ ?_
    · rw [qX8_cell, isShC, bI_s, b01, if_neg hx]
    · rw [qX9_cell, isShR, bI_s, b01, if_neg hx]
end P9
