/-! LAW 26: tells side by side -/
theorem wd10 : ∀ W : Nat, W < 70 → wdiv (W : Int) 10 = ((W / 10 : Nat) : Int) ∧ wrem (W : Int) 10 = ((W % 10 : Nat) : Int) := by decide +kernel
def fOf (W : Nat) : Nat := if W < 20 then 5 else if W < 30 then 0 else if W < 40 then 2 else if W < 50 then 4 else 3
theorem fOf_6 (W : Nat) : fOf W < 6 := by
  unfold fOf
  by_cases h1 : W < 20
  · rw [if_pos h1]; decide
  rw [if_neg h1]
  by_cases h2 : W < 30
  · rw [if_pos h2]; decide
  rw [if_neg h2]
  by_cases h3 : W < 40
  · rw [if_pos h3]; decide
  rw [if_neg h3]
  by_cases h4 : W < 50
  · rw [if_pos h4]; decide
  rw [if_neg h4]; decide
theorem sv53 : ∀ W : Nat, W < 70 → 10 ≤ W → sv 53 (W / 10) = ((fOf W : Nat) : Int) := by decide +kernel
theorem sv52 : ∀ f : Nat, f < 6 → sv 52 f = (((sv 52 f).toNat : Nat) : Int) ∧ (sv 52 f).toNat < 100 := by decide +kernel
def tlV (ft : Ft) (n : Nat) (sm : Nat → Sem × Sem × Sem) (tn t : Nat) (I : Nat → Int) (W : Nat) : Int := if W = 0 then ((unN (offF ft (sm t) n) I n : Nat) : Int) else if W = 1 then bitP (fun k => decide (unN (offF ft (sm k) n) I n = 0)) tn else ansP (W : Int) (fun k => decide (unN (offF (fset ft (fOf W) (W % 10) (k : Int)) (sm t) n) I n = 0)) ((sv 52 (fOf W)).toNat + 1)
section PV
variable {ft : Ft} {n : Nat} {sm : Nat → Sem × Sem × Sem} {tn t : Nat} {s : Sg} {d j W : Nat}
theorem tellsC (h : INVp ft n sm tn t s) (hj : j < 4) (hm : s 30 j 1 ≠ -1) (hz : s 30 j 2 = (n : Int)) (hW : W ≤ 1 ∨ (10 ≤ W ∧ W < 70 ∧ W % 10 < n)) : ∃ s', RUN 60 mX8_tells [vr 0 0, vi (j : Int), vi (W : Int)] s = some (some (vi (tlV ft n sm tn t (s 31 j) W)), s') ∧ frI s s' := by
  have hC := inv_YC h
  have hx : 0 ≤ (j : Int) ∧ (j : Int) < 4 := by omega
  obtain ⟨I, hI⟩ : ∃ I, s 31 j = I := ⟨_, rfl⟩
  obtain ⟨wd, wr⟩ := wd10 W (by omega)
  rw [hI, qX8_tells, wd]
  rcases hW with hW | ⟨w1, w2, w3⟩
  · rw [if_pos (by omega), qX8_tells_20, qX8_tells_21, isShC, bI_s, b01, if_pos hx, if_neg (by omega), if_neg (by omega), qX8_tells_44, if_pos rfl, qX8_tells_66, if_pos (inbN hj), Int.toNat_natCast, missC, bI_s, b01, if_neg hm, qX6_size, bI_s, YC_size hC, bI_s, if_pos hz, if_pos rfl]
    unfold tlV
    by_cases q0 : W = 0
    · obtain ⟨s2, s3, a1, a2, a3, a4, a5, a6, a7⟩ := nowC (d := 51) hC
      have e30 := a5 30 (by decide) (by decide) (by decide) (by decide) (by decide) (by decide) (by decide) (by decide) (by decide) (by decide)
      have e31 := a5 31 (by decide) (by decide) (by decide) (by decide) (by decide) (by decide) (by decide) (by decide) (by decide) (by decide)
      have ho := othC (d := 57) (j := j) (I := I) (O := offF ft (sm t) n) a4 (fun c' hc' => by rw [(a7.2 c' hc').2.1, offF_eq]) (fun i hi => by rw [e31, hI]) (by rw [e30]; exact hz)
      rw [if_pos (by omega), if_pos q0, qX8_otherwiseNow, a1, bV_s, a2, bI_s, ho, bI_s, bI_s]
      refine ⟨s3, rfl, ⟨fun q hq => a5 q (by omega) (by omega) (by omega) (by omega) (by omega) (by omega) (by omega) (by omega) (by omega) (by omega), ?_, a6, fun i _ => ?_⟩⟩
      · rw [a5 11 (by decide) (by decide) (by decide) (by decide) (by decide) (by decide) (by decide) (by decide) (by decide) (by decide)]
      · rw [a5 32 (by decide) (by decide) (by decide) (by decide) (by decide) (by decide) (by decide) (by decide) (by decide) (by decide)]
    · obtain ⟨P, hP⟩ : ∃ P : Nat → Bool, (fun k => decide (unN (offF ft (sm k) n) I n = 0)) = P := ⟨_, rfl⟩
      obtain ⟨s', a1, a2⟩ := textC' (d := 50) (j := j) (I := I) (P := P) h ⟨hz, fun i _ => by rw [hI]⟩ (fun k _ => by rw [← hP]) tn 0 s (by omega) ⟨fun _ _ _ => rfl, fun _ _ _ _ _ _ _ _ _ _ _ _ => rfl, rfl⟩
      rw [if_neg (by omega), if_neg q0, if_pos (by omega), qX8_likelyTexts, qX5_chosen, bI_s, h.2.1.2.2.2.2.1, show EV 59 mX8_likelyTexts (13, [vr 0 0, vr 30 j, vi (t : Int), vi 0, vi 0], [], s) = _ from a1, bI_s, hP]
      exact ⟨s', rfl, a2⟩
  · have hc6 := h.1.2.2.1
    have hf6 := fOf_6 W
    obtain ⟨t1, t2⟩ := sv52 (fOf W) hf6
    obtain ⟨P, hP⟩ : ∃ P : Nat → Bool, (fun k : Nat => decide (unN (offF (fset ft (fOf W) (W % 10) (k : Int)) (sm t) n) I n = 0)) = P := ⟨_, rfl⟩
    obtain ⟨s', a1, a2⟩ := tlC (d := 50) (j := j) (I := I) (P := P) (kd := ((W / 10 : Nat) : Int)) ⟨hz, fun i _ => by rw [hI]⟩ hC hf6 w3 t1 t2 (fun k _ => by rw [← hP]) ((sv 52 (fOf W)).toNat + 1) 0 s (by omega) (tryC_refl s)
    have ea : (if ((W / 10 : Nat) : Int) = 6 then fstP P ((sv 52 (fOf W)).toNat + 1) else if ((W / 10 : Nat) : Int) = 5 then cntP P ((sv 52 (fOf W)).toNat + 1) else bitP P ((sv 52 (fOf W)).toNat + 1)) = tlV ft n sm tn t I W := by
      have eV : tlV ft n sm tn t I W = ansP (W : Int) P ((sv 52 (fOf W)).toNat + 1) := by
        unfold tlV
        rw [if_neg (show ¬ W = 0 by omega), if_neg (show ¬ W = 1 by omega), hP]
      rw [eV]
      unfold ansP
      by_cases q1 : W < 50
      · rw [if_neg (show ¬ ((W / 10 : Nat) : Int) = 6 by omega), if_neg (show ¬ ((W / 10 : Nat) : Int) = 5 by omega), if_pos (show (W : Int) < 50 by omega)]
      · by_cases q2 : W < 60
        · rw [if_neg (show ¬ ((W / 10 : Nat) : Int) = 6 by omega), if_pos (show ((W / 10 : Nat) : Int) = 5 by omega), if_neg (show ¬ (W : Int) < 50 by omega), if_pos (show (W : Int) < 60 by omega)]
        · rw [if_pos (show ((W / 10 : Nat) : Int) = 6 by omega), if_neg (show ¬ (W : Int) < 50 by omega), if_neg (show ¬ (W : Int) < 60 by omega)]
    rw [ea] at a1
    rw [if_neg (by omega), if_neg (by omega), qX8_tells_21, isShC, bI_s, b01, if_pos hx, if_neg (by omega), if_pos (by omega), if_neg (by decide), qX8_tells_44, if_neg (by decide), wr, YC_has hC, bI_s, b01, if_pos (by omega), qX8_tells_66, if_pos (inbN hj), Int.toNat_natCast, missC, bI_s, b01, if_neg hm, qX6_size, bI_s, YC_size hC, bI_s, if_pos hz, if_neg (by decide), wr, qX8_likely, if_pos (inbN (by omega)), Int.toNat_natCast, sv53 W w2 w1, YC_tell hC w3 hf6, bI_s, show EV 59 mX8_likely (31, [vr 0 0, vr 30 j, vi ((W / 10 : Nat) : Int), vi ((W % 10 : Nat) : Int), vi ((fOf W : Nat) : Int), vi (ft (fOf W) (W % 10)), vi 0, vi 0, vi (-1), vi 0], [], s) = _ from a1, bI_s]
    exact ⟨s', rfl, a2⟩
theorem goF {w : Int} {c f : Nat} {v : Sem × Sem × Sem} {z4 z5 z6 z7 z8 z9 z10 : PV} (hR : YR ft n v false s) (hf : f < 5) (hc : c < n) : EV (d + 49) mX9_tells (139, [vr 32 0, vi (j : Int), vi w, vi (c : Int), z4, z5, z6, z7, z8, z9, z10], [vi (f : Int)], s) = EV (d + 49) mX9_tells (228, [vr 32 0, vi (j : Int), vi w, vi (c : Int), vi (f : Int), vi (ft f c), vi (((sv 52 f).toNat : Nat) : Int), vi 0, vi 0, vi (-1), vi 0], [], s) := by
  have h6 := hR.2.1.1
  rw [qX9_tells_139, if_neg (by omega), if_neg (by omega), w32_id (x := 5 * (c : Int)) (by omega) (by omega), w32_id (by omega) (by omega), show 5 * (c : Int) + (f : Int) = ((5 * c + f : Nat) : Int) by omega, if_pos (inbN (by omega)), Int.toNat_natCast, YR_row hR hc hf, qX9_tells_181, if_neg (by omega), if_neg (by omega), mostR hf, bI_s, qX9_tells_214, ← (sv52 f (by omega)).1]
theorem tellsR (h : INVp ft n sm tn t s) (hj : j < 4) (hm : s 30 j 1 ≠ -1) (hz : s 30 j 2 = (n : Int)) (hW : W ≤ 1 ∨ (10 ≤ W ∧ W < 70 ∧ W % 10 < n)) : ∃ s', RUN 60 mX9_tells [vr 32 0, vi (j : Int), vi (W : Int)] s = some (some (vi (tlV ft n sm tn t (s 31 j) W)), s') ∧ frI s s' := by
  have hR := inv_YR h
  have h6 := h.1.2.2.1
  have hx : 0 ≤ (j : Int) ∧ (j : Int) < 4 := by omega
  obtain ⟨q1, q2, q3, q4⟩ := h.2.2.2.2.1 j hj
  obtain ⟨p1, p2, p3, p4⟩ := q4 hm
  obtain ⟨I, hI⟩ : ∃ I, s 31 j = I := ⟨_, rfl⟩
  have hI51 : ∀ i, i < n → s 51 0 (40 * j + i) = I i := fun i hi => by rw [p4 i (by omega), hI]
  obtain ⟨wd, wr⟩ := wd10 W (by omega)
  have at45 : ∃ s', EV (11 + 49) mX9_tells (45, [vr 32 0, vi (j : Int), vi (W : Int), UU, UU, UU, UU, UU, UU, UU, UU], [], s) = some (some (vi (tlV ft n sm tn t (s 31 j) W)), s') ∧ frI s s' := by
    rw [hI, qX9_tells_45, if_pos (inbN hj), Int.toNat_natCast, if_neg (by omega), if_pos (inbN hj), p3, hR.1.1, if_pos hz, wr]
    by_cases w0 : W = 0
    · obtain ⟨s1, a1, a2⟩ := unlR (d := 11) (j := j) (I := I) hR hj hI51
      unfold tlV
      rw [if_pos (by omega), if_pos w0, a1, bI_s]
      exact ⟨s1, rfl, frI_W a2⟩
    rw [if_neg (by omega)]
    by_cases w1 : W = 1
    · obtain ⟨P, hP⟩ : ∃ P : Nat → Bool, (fun k => decide (unN (offF ft (sm k) n) I n = 0)) = P := ⟨_, rfl⟩
      have htn : tn = (tn - 1) + 1 := by have := h.2.1.1; omega
      have hx1 := h.2.1.1
      have hx2 := h.2.1.2.1
      obtain ⟨s', a1, a2⟩ := textR (d := 11) (j := j) (I := I) (P := P) (w := (W : Int)) (c := ((W % 10 : Nat) : Int)) (top := tn - 1) h hj htn hI51 (fun k _ => by rw [← hP])
      rw [← htn] at a1
      unfold tlV
      rw [if_neg w0, if_pos w1, hP, if_pos (by omega), qX9_tells_139, if_pos rfl, h.2.1.2.2.2.2.2.2.2.1, qX9_tells_181, if_pos rfl, h.2.1.2.2.2.2.2.2.1, w32_id (by omega) (by omega), show (tn : Int) - 1 = ((tn - 1 : Nat) : Int) by omega, qX9_tells_214, a1]
      unfold ansP
      rw [if_pos (by omega)]
      exact ⟨s', rfl, a2⟩
    rw [if_neg (by omega)]
    have w3 : 10 ≤ W ∧ W < 70 ∧ W % 10 < n := by omega
    obtain ⟨t1, t2⟩ := sv52 (fOf W) (fOf_6 W)
    obtain ⟨P, hP⟩ : ∃ P : Nat → Bool, (fun k : Nat => decide (unN (offF (fset ft (fOf W) (W % 10) (k : Int)) (sm t) n) I n = 0)) = P := ⟨_, rfl⟩
    have eV : tlV ft n sm tn t I W = ansP (W : Int) P ((sv 52 (fOf W)).toNat + 1) := by
      unfold tlV
      rw [if_neg w0, if_neg w1, hP]
    rw [eV]
    by_cases k1 : W < 20
    · have ef : fOf W = 5 := if_pos k1
      rw [ef] at hP
      obtain ⟨s', a1, a2⟩ := kindR (d := 11) (j := j) (I := I) (P := P) (w := (W : Int)) (c := W % 10) hR w3.2.2 hj hI51 (fun k _ => by rw [← hP])
      rw [ef, if_pos (by omega), qX9_tells_139, if_neg (by decide), if_pos rfl, if_pos (inbN (by omega)), Int.toNat_natCast, (hR.1.2 _ w3.2.2).2, qX9_tells_181, if_neg (by decide), if_pos rfl, qX9_tells_214]
      exact ⟨s', a1, a2⟩
    rw [if_neg (by omega)]
    have fin : ∀ f : Nat, f < 5 → fOf W = f → ∃ s', EV (11 + 49) mX9_tells (139, [vr 32 0, vi (j : Int), vi (W : Int), vi ((W % 10 : Nat) : Int), UU, UU, UU, UU, UU, UU, UU], [vi (f : Int)], s) = some (some (vi (ansP (W : Int) P ((sv 52 (fOf W)).toNat + 1))), s') ∧ frI s s' := by
      intro f hf ef
      rw [goF hR hf w3.2.2]
      rw [ef] at hP t1 t2 ⊢
      exact featR (d := 11) (j := j) (I := I) hR hf w3.2.2 hj t1 t2 hI51 (fun k _ => by rw [← hP])
    by_cases k2 : W < 30
    · rw [if_pos (by omega)]
      exact fin 0 (by decide) (by unfold fOf; rw [if_neg k1, if_pos k2])
    rw [if_neg (by omega)]
    by_cases k3 : W < 40
    · rw [if_pos (by omega)]
      exact fin 2 (by decide) (by unfold fOf; rw [if_neg k1, if_neg k2, if_pos k3])
    rw [if_neg (by omega)]
    by_cases k4 : W < 50
    · rw [if_pos (by omega)]
      exact fin 4 (by decide) (by unfold fOf; rw [if_neg k1, if_neg k2, if_neg k3, if_pos k4])
    rw [if_neg (by omega)]
    exact fin 3 (by decide) (by unfold fOf; rw [if_neg k1, if_neg k2, if_neg k3, if_neg k4])
  rw [qX9_tells, isShR, bI_s, b01, if_pos hx, in_ok, bI_s, b01]
  by_cases w1 : W ≤ 1
  · rw [if_pos (by omega)]
    exact at45
  · rw [if_neg (by omega), in_ok, bI_s, b01, if_pos (by omega), wr, carR hR, bI_s, b01, if_pos (by omega)]
    exact at45
theorem p_tells (x w : Int) (hw : -2147483648 ≤ w ∧ w < 2147483648) : PAIR mX8_tells mX9_tells [vi x, vi w] := by
  intro s ⟨ft, n, sm, tn, t, h⟩
  have h6 := h.1.2.2.1
  have hC := inv_YC h
  have hR := inv_YR h
  have bad : ∀ r : Int, RUN 60 mX8_tells [vr 0 0, vi x, vi w] s = some (some (vi r), s) → RUN 60 mX9_tells [vr 32 0, vi x, vi w] s = some (some (vi r), s) → ∃ r s1 s2, RUN 60 mX8_tells [vr 0 0, vi x, vi w] s = some (some r, s1) ∧ RUN 60 mX9_tells [vr 32 0, vi x, vi w] s1 = some (some r, s2) ∧ INV s2 := fun r h1 h2 => ⟨vi r, s, s, h1, h2, ft, n, sm, tn, t, h⟩
  by_cases hx : 0 ≤ x ∧ x < 4
  · obtain ⟨j, rfl⟩ : ∃ j : Nat, x = (j : Int) := ⟨x.toNat, by omega⟩
    have hj : j < 4 := by omega
    obtain ⟨q1, q2, q3, q4⟩ := h.2.2.2.2.1 j hj
    by_cases hw1 : (0 ≤ w ∧ w ≤ 1) ∨ (10 ≤ w ∧ w ≤ 69)
    · obtain ⟨W, rfl⟩ : ∃ W : Nat, w = (W : Int) := ⟨w.toNat, by omega⟩
      obtain ⟨wd, wr⟩ := wd10 W (by omega)
      have c21 : ∀ s' : Sg, ∃ y0 : Int, y0 = (if 10 ≤ W then 1 else 0) ∧ RUN 60 mX8_tells [vr 0 0, vi (j : Int), vi (W : Int)] s' = EV 60 mX8_tells (21, [vr 0 0, vi (j : Int), vi (W : Int), vi ((W / 10 : Nat) : Int), UU, UU], [vi y0], s') := by
        intro s'
        rw [qX8_tells, wd]
        by_cases k : 10 ≤ W
        · rw [if_neg (show ¬ ((W / 10 : Nat) : Int) < 1 by omega), if_neg (show ¬ 6 < ((W / 10 : Nat) : Int) by omega)]
          exact ⟨1, by rw [if_pos k], rfl⟩
        · rw [if_pos (show ((W / 10 : Nat) : Int) < 1 by omega), qX8_tells_20]
          exact ⟨0, by rw [if_neg k], rfl⟩
      obtain ⟨y0, hy, c21⟩ := c21 s
      by_cases hcar : 10 ≤ W → W % 10 < n
      · have c66 : RUN 60 mX8_tells [vr 0 0, vi (j : Int), vi (W : Int)] s = EV 60 mX8_tells (66, [vr 0 0, vi (j : Int), vi (W : Int), vi ((W / 10 : Nat) : Int), vi y0, UU], [], s) := by
          rw [c21, qX8_tells_21, isShC, bI_s, b01, if_pos hx, if_neg (show ¬ (W : Int) < 0 by omega)]
          by_cases k : 10 ≤ W
          · rw [if_pos k] at hy
            rw [if_pos (show 1 < (W : Int) by omega), if_neg (show ¬ y0 = 0 by omega), qX8_tells_44, if_neg (show ¬ y0 = 0 by omega), wr, YC_has hC, bI_s, b01, if_pos (by have := hcar k; omega)]
          · rw [if_neg k] at hy
            rw [if_neg (show ¬ 1 < (W : Int) by omega), qX8_tells_44, if_pos hy]
        have r45 : RUN 60 mX9_tells [vr 32 0, vi (j : Int), vi (W : Int)] s = EV 60 mX9_tells (45, [vr 32 0, vi (j : Int), vi (W : Int), UU, UU, UU, UU, UU, UU, UU, UU], [], s) := by
          rw [qX9_tells, isShR, bI_s, b01, if_pos hx, in_ok, bI_s, b01]
          by_cases k : W ≤ 1
          · rw [if_pos (by omega)]
          · rw [if_neg (by omega), in_ok, bI_s, b01, if_pos (by omega), wr, carR hR, bI_s, b01, if_pos (by have := hcar (by omega); omega)]
        by_cases hmis : s 30 j 1 = -1
        · refine bad (-11) ?_ ?_
          · rw [c66, qX8_tells_66, if_pos (inbN hj), Int.toNat_natCast, missC, bI_s, b01, if_pos hmis]
          · rw [r45, qX9_tells_45, if_pos (inbN hj), Int.toNat_natCast, if_pos (q3 hmis)]
        · obtain ⟨p1, p2, p3, p4⟩ := q4 hmis
          by_cases hz : s 30 j 2 = (n : Int)
          · obtain ⟨s1, a1, a2⟩ := tellsC h hj hmis hz (W := W) (by
              by_cases k : 10 ≤ W
              · exact Or.inr ⟨k, by omega, hcar k⟩
              · exact Or.inl (by omega))
            have h1 := INV_fr h a2
            have e30 := a2.1 30 (by omega)
            have e31 := a2.1 31 (by omega)
            obtain ⟨s2, b1, b2⟩ := tellsR h1 hj (by rw [e30]; exact hmis) (by rw [e30]; exact hz) (W := W) (by
              by_cases k : 10 ≤ W
              · exact Or.inr ⟨k, by omega, hcar k⟩
              · exact Or.inl (by omega))
            rw [e31] at b1
            exact ⟨_, s1, s2, a1, b1, ft, n, sm, tn, t, INV_fr h1 b2⟩
          · refine bad (-2) ?_ ?_
            · rw [c66, qX8_tells_66, if_pos (inbN hj), Int.toNat_natCast, missC, bI_s, b01, if_neg hmis, qX6_size, bI_s, YC_size hC, bI_s, if_neg hz]
            · rw [r45, qX9_tells_45, if_pos (inbN hj), Int.toNat_natCast, if_neg (by omega), if_pos (inbN hj), p3, hR.1.1, if_neg hz]
      · have k : 10 ≤ W := Decidable.byContradiction (fun z => hcar (fun y => absurd y z))
        have hc : ¬ W % 10 < n := fun z => hcar (fun _ => z)
        rw [if_pos k] at hy
        refine bad (-2) ?_ ?_
        · rw [c21, qX8_tells_21, isShC, bI_s, b01, if_pos hx, if_neg (show ¬ (W : Int) < 0 by omega), if_pos (show 1 < (W : Int) by omega), if_neg (show ¬ y0 = 0 by omega), qX8_tells_44, if_neg (show ¬ y0 = 0 by omega), wr, YC_has hC, bI_s, b01, if_neg (by omega)]
        · rw [qX9_tells, isShR, bI_s, b01, if_pos hx, in_ok, bI_s, b01, if_neg (by omega), in_ok, bI_s, b01, if_pos (by omega), wr, carR hR, bI_s, b01, if_neg (by omega)]
    · refine bad (-2) ?_ ?_
      · have c21 : RUN 60 mX8_tells [vr 0 0, vi (j : Int), vi w] s = EV 60 mX8_tells (21, [vr 0 0, vi (j : Int), vi w, vi (wdiv w 10), UU, UU], [vi (if 1 ≤ wdiv w 10 ∧ wdiv w 10 ≤ 6 then 1 else 0)], s) := by
          rw [qX8_tells]
          by_cases k1 : wdiv w 10 < 1
          · rw [if_pos k1, qX8_tells_20, if_neg (show ¬ (1 ≤ wdiv w 10 ∧ wdiv w 10 ≤ 6) by omega)]
          · by_cases k2 : 6 < wdiv w 10
            · rw [if_neg k1, if_pos k2, qX8_tells_20, if_neg (show ¬ (1 ≤ wdiv w 10 ∧ wdiv w 10 ≤ 6) by omega)]
            · rw [if_neg k1, if_neg k2, if_pos (show 1 ≤ wdiv w 10 ∧ wdiv w 10 ≤ 6 by omega)]
        rw [c21, qX8_tells_21, isShC, bI_s, b01, if_pos hx]
        by_cases k0 : w < 0
        · rw [if_pos k0]
        · have ed : wdiv w 10 = w / 10 := by
            rw [wdiv_eq hw (by omega), Int.tdiv_eq_ediv_of_nonneg (by omega)]
          rw [if_neg k0, if_pos (show 1 < w by omega), ed, if_neg (show ¬ (1 ≤ w / 10 ∧ w / 10 ≤ 6) by omega), if_pos rfl]
      · rw [qX9_tells, isShR, bI_s, b01, if_pos hx, in_ok, bI_s, b01, if_neg (by omega), in_ok, bI_s, b01, if_neg (by omega)]
  · refine bad (-2) ?_ ?_
    · have c21 : ∃ y0, RUN 60 mX8_tells [vr 0 0, vi x, vi w] s = EV 60 mX8_tells (21, [vr 0 0, vi x, vi w, vi (wdiv w 10), UU, UU], [vi y0], s) := by
        rw [qX8_tells]
        by_cases k1 : wdiv w 10 < 1
        · rw [if_pos k1, qX8_tells_20]; exact ⟨0, rfl⟩
        · by_cases k2 : 6 < wdiv w 10
          · rw [if_neg k1, if_pos k2, qX8_tells_20]; exact ⟨0, rfl⟩
          · rw [if_neg k1, if_neg k2]; exact ⟨1, rfl⟩
      obtain ⟨y0, c21⟩ := c21
      rw [c21, qX8_tells_21, isShC, bI_s, b01, if_neg hx]
    · rw [qX9_tells, isShR, bI_s, b01, if_neg hx]
end PV
